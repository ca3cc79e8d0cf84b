/-! a new int[n][k] -/
section MN
variable {s0 : State} {D : va_G} {ids : Nat → ClassId} {l : Launch} {own : String} {cc : ByteArray} {nL : Nat} {ret : Option FieldType} {nm : String} {rm : Room} {K : Kr} {E : Ej} {pc : Nat} {k : Xf}
theorem mna_outer (c : ClassId) (N h0 : Nat) : ∀ i : Nat, Jvm.Free.Multi.outerC c N h0 i = arrV c N (fun j => va_rf (if j < i then some (h0 + 1 + j) else none))
  | 0 => by
    show ({ cls := c, slots := Array.replicate N .null, vm := .none } : Cell) = _
    rw [arrV_new]
    exact congrArg (arrV c N) (funext fun j => by rw [if_neg (Nat.not_lt_zero j)]; rfl)
  | i + 1 => by
    show (Jvm.Free.Multi.outerC c N h0 i).setSlot i (.ref (h0 + 1 + i)) = _
    rw [mna_outer c N h0 i, arrV_store]
    refine congrArg (arrV c N) (funext fun j => ?_)
    by_cases e : j = i
    · subst e
      simp [updV, va_rf]
    · by_cases h : j < i
      · simp [updV, e, h, Nat.lt_succ_of_lt h]
      · simp [updV, e, h, show ¬ j < i + 1 by omega]
theorem mna_heap {F H : Heap} {z N M : Nat} {f : Fm} (hW : enW s0 D ids z f H) (hs : F.size = z + 1 + N) (h0 : F[z]? = some (arrV (ids 4) N (fun j => va_rf (if j < N then some (z + 1 + j) else none)))) (hrow : ∀ j : Nat, j < N → F[z + 1 + j]? = some (arrV (ids 1) M (fun _ => .int 0))) (hold : ∀ x : Nat, x < z → F[x]? = H[x]?) : enW s0 D ids (z + 1 + N) (mnaF f z N M) F := by
  have hz := hW.2.1
  refine ⟨hs, by omega, fun q hq => (hold q (by omega)).trans (hW.2.2.1 q hq), fun a ce ha => ?_⟩
  unfold mnaF at ha
  by_cases e1 : a = z
  · subst e1
    rw [if_pos rfl] at ha
    cases ha
    unfold enC
    rw [if_pos (by simp [ceOwn])]
    exact ⟨hz, h0⟩
  · rw [if_neg e1] at ha
    by_cases e2 : z < a ∧ a ≤ z + N
    · rw [if_pos e2] at ha
      cases ha
      unfold enC
      rw [if_pos (by simp [ceOwn])]
      refine ⟨by omega, ?_⟩
      have := hrow (a - (z + 1)) (by omega)
      rw [show z + 1 + (a - (z + 1)) = a by omega] at this
      exact this
    · rw [if_neg e2] at ha
      have hlt := hW.lt ha
      have h2 := hW.2.2.2 a ce ha
      unfold enC at h2 ⊢
      split
      · rename_i e3
        rw [if_pos e3] at h2
        exact ⟨h2.1, h2.2.kept (hold a hlt)⟩
      · rename_i e3
        rw [if_neg e3] at h2
        exact h2
theorem sd_mna (X : EnX s0 D ids l own cc nL ret nm rm K E) {index : Nat} (hd : decode cc pc = .ok (.multianewarray index 2, 4)) (hcl : Cond.classLink own index "[[I" ∈ bigW) (hover : (Cond.arrayOver (.array .int)).before #[] s0 = true) (harr : Cond.arrayClass .int ∈ bigW) (hk : Sd E K (pc + 4) k) : Sd E K pc (xmna k) := by
  obtain ⟨p, e, s, m, args, below, meth, c, ⟨hx, hb, hml, hown, hts⟩, hr, hlk, hnm, hS, hK, rfl⟩ := X
  intro ls st z f h H locs A hA hn hW hL h1 h2
  unfold xmna at h
  split at h
  · rename_i k9 n r
    obtain ⟨b0, b1, b2, b3, b4, b5, h⟩ := h
    intro T hT Xs
    have en : ("[" ++ (FieldType.array .int).toString) = "[[I" := by decide
    obtain ⟨vm₁, cA, comp, -, fA, fC, hO, -, X', step⟩ := Xs.multianewarray2F hx hown (ty := .int) (by rw [en]; exact hts _ hcl) (ao_args (ao_moved hS.1.alike hover)) (hts _ harr) (g := F0 m pc A (.int k9 :: .int n :: r)) rfl (by rw [hb]; exact hd) rfl b0 b1 (by omega) (Nat.le_trans (Nat.mul_le_mul b3 (Nat.le_refl 4)) (Nat.le_of_ble_eq_true rfl)) (by omega) rfl rfl (by omega) (by omega)
    have g4 := (hK.2 4 _ (tysL_at (ids := ids) (t := 4) (by omega))).2
    have g1 := (hK.2 1 _ (tysL_at (ids := ids) (t := 1) (by omega))).2
    have ec : cA = ids 4 := Option.some.inj (fA.symm.trans g4)
    have ec1 : comp = ids 1 := Option.some.inj (fC.symm.trans g1)
    subst ec ec1
    generalize hF : Jvm.Free.Multi.fill (T.setVm vm₁) (ids 4) (ids 1) n.toNatClampNeg k9.toNatClampNeg (defaultValue .int) n.toNatClampNeg = F at X' step
    have hTh : (T.setVm vm₁).heap = H := hT
    have hHz : H.size = z.1 := hW.1
    obtain ⟨f1, f2, -, -⟩ := Jvm.Free.Multi.fill_facts (T.setVm vm₁) (ids 4) (ids 1) n.toNatClampNeg k9.toNatClampNeg (defaultValue .int) n.toNatClampNeg
    rw [hF, hTh, hHz] at f1 f2
    have hold : ∀ x : Nat, x < z.1 → F.heap[x]? = H[x]? := fun x hx => by
      have := Jvm.Free.Multi.fill_old (T.setVm vm₁) (ids 4) (ids 1) n.toNatClampNeg k9.toNatClampNeg (defaultValue .int) (a := x) (by rw [hTh, hHz]; exact hx) n.toNatClampNeg
      rw [hF, hTh] at this
      exact this
    have hrow : ∀ j : Nat, j < n.toNatClampNeg → F.heap[z.1 + 1 + j]? = some (arrV (ids 1) k9.toNatClampNeg (fun _ => .int 0)) := fun j hj => by
      have := Jvm.Free.Multi.fill_inner (T.setVm vm₁) (ids 4) (ids 1) n.toNatClampNeg k9.toNatClampNeg (defaultValue .int) n.toNatClampNeg j hj
      rw [hF, hTh, hHz] at this
      refine this.trans (congrArg some ?_)
      show ({ cls := ids 1, slots := Array.replicate k9.toNatClampNeg (.int 0), vm := .none } : Cell) = _
      rw [arrV_new]
    rw [mna_outer] at f2
    have hW2 := mna_heap hW (by rw [f1]) f2 hrow hold
    obtain ⟨t, a1, c1⟩ := hk ls _ (z.1 + 1 + n.toNatClampNeg, z.2.1 - 1 - n.toNatClampNeg, z.2.2 - (n.toNatClampNeg + n.toNatClampNeg * k9.toNatClampNeg)) _ h F.heap locs A hA hn hW2 hL (by dsimp only; omega) (by dsimp only; omega) F rfl (by dsimp only; exact (by rw [show rm.cells - (z.2.1 - 1 - n.toNatClampNeg) = rm.cells - z.2.1 + 1 + n.toNatClampNeg by omega, show rm.slots - (z.2.2 - (n.toNatClampNeg + n.toNatClampNeg * k9.toNatClampNeg)) = rm.slots - z.2.2 + n.toNatClampNeg + n.toNatClampNeg * k9.toNatClampNeg by omega]; exact X'))
    refine ⟨t, step t ?_, c1⟩
    have e9 : T.heap.size = z.1 := by rw [hT]; exact hHz
    rw [e9]
    exact a1
  · exact absurd h id
end MN
