/-! the world at the law's entry -/
theorem arr_of {args : Array Value} {s : State} {tm : Term} {t N : Nat} {g : (Nat → Int32) ⊕ (Nat → Option Nat)} (hN : N < 2147483648) (harr : (Cond.arrayOf tm (tyA t)).before args s = true) (hlen : (Cond.eq (.length tm) (.int (Int32.ofNat N))).before args s = true) (hel : ∀ j : Nat, j < N → (Term.elem tm (.int (Int32.ofNat j))).eval args s none [] s = some (arG g j)) : ∃ a : Nat, tm.eval args s none [] s = some (.ref a) ∧ enRO s a (.inl (t, N, g)) := by
  have hA : ∀ a : Nat, a < s.heap.size → ¬ (fun q : Nat => s.heap.size ≤ q) a := fun a h => Nat.not_le.mpr h
  have hle := va_eqt hlen
  obtain ⟨a, h1, h2⟩ := va_Tof (f := arG g) (A := fun q : Nat => s.heap.size ≤ q) (by omega) harr hle hel hA
  refine ⟨a, h1, h2, ?_⟩
  obtain ⟨b, cell, e1, e2, e3, e4⟩ := Jvm.Lib.length_spec hle
  cases h1.symm.trans e1
  obtain ⟨e5, -⟩ := State.arrayAt?_spec e2
  refine ⟨cell, e5, ?_⟩
  have e6 : nI N = nI cell.slots.size := by injection e4
  exact (nI_ij9 hN (by omega) e6).symm
theorem str_of {args : Array Value} {s : State} {tm : Term} {L : List Nat} (hN : L.length < 2147483648) (hex : (Cond.exactly tm "java/lang/String").before args s = true) (hco : (Cond.eq (.field tm "java/lang/String" "coder" "B") (.int 0)).before args s = true) (har : (Cond.arrayOf (vlT tm) .byte).before args s = true) (hle : (Cond.eq (.length (vlT tm)) (.int (Int32.ofNat L.length))).before args s = true) (hel : ∀ j : Nat, j < L.length → (Cond.eq (.elem (vlT tm) (.int (Int32.ofNat j))) (.int (nI (L.getD j 0)))).before args s = true) : ∃ q : Nat × Nat, tm.eval args s none [] s = some (.ref q.1) ∧ enRO s q.1 (.inr (13, [.ref q.2, .int (nI 0)])) ∧ enRO s q.2 (.inl (8, L.length, .inl (rw1 (fun j => L.getD j 0)))) := by
  have hA : ∀ a : Nat, a < s.heap.size → ¬ (fun q : Nat => s.heap.size ≤ q) a := fun a h => Nat.not_le.mpr h
  obtain ⟨v, hv, hv2⟩ := arr_of (t := 8) (g := .inl (rw1 (fun j => L.getD j 0))) hN har hle (fun j hj => va_eqt (hel j hj))
  obtain ⟨a, c, cA, kA, q1, -⟩ := Cond.exactly_spec (args := args) (first := s) (o := none) (s := s) (idx := []) (t := tm) (cls := "java/lang/String") hex
  refine ⟨(a, v), q1, ⟨_, rfl, va_Oof hex q1 hA, fun k w hk => ?_⟩, hv2⟩
  match k, hk with
  | 0, hk => cases hk; exact ⟨_, rfl, vk_OFof q1 hv hA⟩
  | 1, hk => cases hk; exact ⟨_, rfl, vk_OFof q1 (va_eqt hco) hA⟩
  | k + 2, hk => simp at hk
theorem kd_of {args : Array Value} {s : State} {tm ft : Term} {v k : Nat} (hex : (Cond.exactly tm "FortHeralds$Kind").before args s = true) (hor : (Cond.eq (.field tm "java/lang/Enum" "ordinal" "I") (.int (nI k))).before args s = true) (hfo : (Cond.eq (.field tm "FortHeralds$Kind" "form" "Ljava/lang/String;") ft).before args s = true) (hv : ft.eval args s none [] s = some (.ref v)) : ∃ a : Nat, tm.eval args s none [] s = some (.ref a) ∧ enRO s a (.inr (12, [.ref v, .int (nI k)])) := by
  have hA : ∀ a : Nat, a < s.heap.size → ¬ (fun q : Nat => s.heap.size ≤ q) a := fun a h => Nat.not_le.mpr h
  obtain ⟨a, c, cA, kA, q1, -⟩ := Cond.exactly_spec (args := args) (first := s) (o := none) (s := s) (idx := []) (t := tm) (cls := "FortHeralds$Kind") hex
  refine ⟨a, q1, ⟨_, rfl, va_Oof hex q1 hA, fun k w hk => ?_⟩⟩
  match k, hk with
  | 0, hk => cases hk; exact ⟨_, rfl, vk_OFof q1 (va_eqv hfo hv) hA⟩
  | 1, hk => cases hk; exact ⟨_, rfl, vk_OFof q1 (va_eqt hor) hA⟩
  | k + 2, hk => simp at hk
/-- the pictures of what stands since before, in one form each -/
def cnO (ce : Ce) : Prop := match ce with
  | .inl (t, n, .inl g) => (t = 7 ∧ ∀ j, n ≤ j → g j = 0) ∨ (t = 8 ∧ ((n = 100 ∧ (g = rw1 dgT ∨ g = rw1 dgO)) ∨ (n ≠ 100 ∧ ∀ j, n ≤ j → g j = 0)))
  | .inl (t, n, .inr g) => (t = 5 ∨ t = 6) ∧ ∀ j, n ≤ j → g j = none
  | .inr (ci, fs) => (ci = 12 ∨ ci = 13) ∧ ∃ v k, fs = [.ref v, .int k]
theorem enRO_lt {s : State} {a : Nat} {ce : Ce} (h : enRO s a ce) : a < s.heap.size := by
  match ce, h with
  | .inl (t, n, g), h =>
    obtain ⟨-, cell, h1, -⟩ := h
    exact (Array.getElem?_eq_some_iff.mp h1).1
  | .inr (ci, fs), h =>
    obtain ⟨r, -, ⟨cell, h1, -⟩, -⟩ := h
    exact (Array.getElem?_eq_some_iff.mp h1).1
theorem arr_ty {s : State} {a t n t' n' : Nat} {g g' : (Nat → Int32) ⊕ (Nat → Option Nat)} (h1 : enRO s a (.inl (t, n, g))) (h2 : enRO s a (.inl (t', n', g'))) : tyA t = tyA t' ∧ n = n' ∧ ∀ j, j < n → arG g j = arG g' j := by
  obtain ⟨⟨c1, a1, ⟨-, k1, a2, p1, a3⟩, -, -, -, a4, -⟩, d1, b1, b2⟩ := h1
  obtain ⟨⟨c2, e1, ⟨-, k2, e2, p2, e3⟩, -, -, -, e4, -⟩, d2, f1, f2⟩ := h2
  cases a1.symm.trans e1
  cases a1.symm.trans b1
  cases a1.symm.trans f1
  cases a2.symm.trans e2
  have hn : n = n' := b2.symm.trans f2
  subst hn
  refine ⟨?_, rfl, fun j hj => ?_⟩
  · have := a3.symm.trans e3
    injection this
  · exact Option.some.inj ((a4 j hj).symm.trans (e4 j hj))
theorem arr_ob {s : State} {a t n ci : Nat} {g : (Nat → Int32) ⊕ (Nat → Option Nat)} {v : Nat} {k : Int32} (h1 : enRO s a (.inl (t, n, g))) (h2 : enRO s a (.inr (ci, [.ref v, .int k]))) : False := by
  obtain ⟨⟨c1, a1, -, -, -, -, a4, -⟩, d1, b1, b2⟩ := h1
  obtain ⟨r, -, -, hf⟩ := h2
  cases a1.symm.trans b1
  obtain ⟨x, -, cf, kk, i, fd, cell, -, -, f3, -, f5, -⟩ := hf 0 _ rfl
  obtain ⟨y, -, cf2, kk2, i2, fd2, cell2, -, -, g3, -, g5, -⟩ := hf 1 _ rfl
  cases a1.symm.trans f3
  cases a1.symm.trans g3
  have l1 : fd.slot < n := by rw [← b2]; exact (Array.getElem?_eq_some_iff.mp f5).1
  have l2 : fd2.slot < n := by rw [← b2]; exact (Array.getElem?_eq_some_iff.mp g5).1
  have e1 := Option.some.inj ((a4 _ l1).symm.trans f5)
  have e2 := Option.some.inj ((a4 _ l2).symm.trans g5)
  cases g with
  | inl g => cases e1
  | inr g =>
    have e3 : va_rf (g fd2.slot) = .int k := e2
    cases hg : g fd2.slot with
    | none => rw [hg] at e3; cases e3
    | some w => rw [hg] at e3; cases e3
theorem ob_ob {s : State} {a ci ci' : Nat} {v v' : Nat} {k k' : Int32} (hc : ci = 12 ∨ ci = 13) (hc' : ci' = 12 ∨ ci' = 13) (h1 : enRO s a (.inr (ci, [.ref v, .int k]))) (h2 : enRO s a (.inr (ci', [.ref v', .int k']))) : ci = ci' ∧ v = v' ∧ k = k' := by
  obtain ⟨r, hr, ⟨c1, o1, -, o2, -⟩, hf⟩ := h1
  obtain ⟨r', hr', ⟨c2, p1, -, p2, -⟩, hf'⟩ := h2
  cases o1.symm.trans p1
  have hn : r.1 = r'.1 := by
    obtain ⟨k1, q1, q2⟩ := Vm.findClass_spec o2
    obtain ⟨k2, q3, q4⟩ := Vm.findClass_spec p2
    cases q1.symm.trans q3
    exact q2.symm.trans q4
  have hci : ci = ci' := by
    rcases hc with rfl | rfl <;> rcases hc' with rfl | rfl
    · rfl
    · cases hr
      cases hr'
      exact absurd hn (by decide)
    · cases hr
      cases hr'
      exact absurd hn (by decide)
    · rfl
  subst hci
  cases hr.symm.trans hr'
  obtain ⟨x, hx, cf, kk, i, fd, cell, f1, f2, f3, -, f5, -⟩ := hf 0 _ rfl
  obtain ⟨x', hx', cf', kk', i', fd', cell', g1, g2, g3, -, g5, -⟩ := hf' 0 _ rfl
  cases hx.symm.trans hx'
  cases f1.symm.trans g1
  cases f3.symm.trans g3
  obtain ⟨y, hy, df, dk, di, dd, dell, d1, d2, d3, -, d5, -⟩ := hf 1 _ rfl
  obtain ⟨y', hy', df', dk', di', dd', dell', e1, e2, e3, -, e5, -⟩ := hf' 1 _ rfl
  cases hy.symm.trans hy'
  cases d1.symm.trans e1
  cases d3.symm.trans e3
  have v1 := Option.some.inj (f5.symm.trans g5)
  have k1 := Option.some.inj (d5.symm.trans e5)
  cases v1
  cases k1
  exact ⟨rfl, rfl, rfl⟩
theorem rw1_ne : rw1 dgT 1 ≠ rw1 dgO 1 := by decide +kernel
theorem en_uq {s : State} {a : Nat} {ce ce' : Ce} (c1 : cnO ce) (c2 : cnO ce') (h1 : enRO s a ce) (h2 : enRO s a ce') : ce = ce' := by
  match ce, ce', c1, c2, h1, h2 with
  | .inl (t, n, g), .inl (t', n', g'), c1, c2, h1, h2 =>
    obtain ⟨e1, e2, e3⟩ := arr_ty h1 h2
    subst e2
    match g, g', c1, c2, e3 with
    | .inl g, .inl g', c1, c2, e3 =>
      have e4 : ∀ j, j < n → g j = g' j := fun j hj => by
        have := e3 j hj
        injection this
      have hz : (∀ j, n ≤ j → g j = 0) → (∀ j, n ≤ j → g' j = 0) → g = g' := fun z1 z2 => funext fun j => by
        by_cases q : j < n
        · exact e4 j q
        · rw [z1 j (by omega), z2 j (by omega)]
      rcases c1 with ⟨rfl, d1⟩ | ⟨rfl, d1⟩ <;> rcases c2 with ⟨rfl, d2⟩ | ⟨rfl, d2⟩
      · rw [hz d1 d2]
      · exact absurd e1 (by decide)
      · exact absurd e1 (by decide)
      · rcases d1 with ⟨hn, d3⟩ | ⟨hn, d3⟩ <;> rcases d2 with ⟨hn2, d4⟩ | ⟨hn2, d4⟩
        · have e5 := e4 1 (by omega)
          rcases d3 with rfl | rfl <;> rcases d4 with rfl | rfl
          · rfl
          · exact absurd e5 rw1_ne
          · exact absurd e5.symm rw1_ne
          · rfl
        · exact absurd hn hn2
        · exact absurd hn2 hn
        · rw [hz d3 d4]
    | .inl g, .inr g', c1, c2, e3 =>
      exfalso
      rcases c1 with ⟨rfl, -⟩ | ⟨rfl, -⟩ <;> rcases c2.1 with rfl | rfl <;> exact absurd e1 (by decide)
    | .inr g, .inl g', c1, c2, e3 =>
      exfalso
      rcases c2 with ⟨rfl, -⟩ | ⟨rfl, -⟩ <;> rcases c1.1 with rfl | rfl <;> exact absurd e1 (by decide)
    | .inr g, .inr g', c1, c2, e3 =>
      have ht : t = t' := by
        rcases c1.1 with rfl | rfl <;> rcases c2.1 with rfl | rfl
        · rfl
        · exact absurd e1 (by decide)
        · exact absurd e1 (by decide)
        · rfl
      subst ht
      have hg : g = g' := funext fun j => by
        by_cases q : j < n
        · have e5 : va_rf (g j) = va_rf (g' j) := e3 j q
          cases h5 : g j <;> cases h6 : g' j <;> rw [h5, h6] at e5
          · cases e5
          · cases e5
          · have e7 : Value.ref _ = Value.ref _ := e5
            injection e7 with e8
            rw [e8]
        · rw [c1.2 j (by omega), c2.2 j (by omega)]
      rw [hg]
  | .inl (t, n, g), .inr (ci, fs), c1, c2, h1, h2 =>
    obtain ⟨-, v, k, rfl⟩ := c2
    exact absurd (arr_ob h1 h2) id
  | .inr (ci, fs), .inl (t, n, g), c1, c2, h1, h2 =>
    obtain ⟨-, v, k, rfl⟩ := c1
    exact absurd (arr_ob h2 h1) id
  | .inr (ci, fs), .inr (ci', fs'), c1, c2, h1, h2 =>
    obtain ⟨d1, v, k, rfl⟩ := c1
    obtain ⟨d2, v', k', rfl⟩ := c2
    obtain ⟨rfl, rfl, rfl⟩ := ob_ob d1 d2 h1 h2
    rfl
theorem pic_of (s : State) : ∃ f : Fm, (∀ a ce, f a = some ce → cnO ce ∧ enRO s a ce) ∧ ∀ a ce, cnO ce → enRO s a ce → f a = some ce := by
  have h0 : ∀ a : Nat, ∃ o : Option Ce, (∀ ce, o = some ce → cnO ce ∧ enRO s a ce) ∧ ∀ ce, cnO ce → enRO s a ce → o = some ce := fun a => by
    by_cases h : ∃ ce, cnO ce ∧ enRO s a ce
    · obtain ⟨ce, h1, h2⟩ := h
      exact ⟨some ce, fun ce' e => by cases e; exact ⟨h1, h2⟩, fun ce' c2 e2 => by rw [en_uq h1 c2 h2 e2]⟩
    · exact ⟨none, fun ce' e => (by cases e), fun ce' c2 e2 => absurd ⟨ce', c2, e2⟩ h⟩
  obtain ⟨f, hf⟩ := Classical.axiomOfChoice h0
  exact ⟨f, fun a ce e => (hf a).1 ce e, fun a ce c e => (hf a).2 ce c e⟩
