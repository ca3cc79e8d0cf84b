/-! a method's entry; System.arraycopy; int[n][k] -/
def ls0 (as : List Value) (nL : Nat) : Ls := as.map some ++ List.replicate (nL - as.length) none
theorem lv_args_c1 : ∀ (vs : List Value) (i : Nat), (∀ v ∈ vs, v.category = 1) → ∀ (j : Nat) (v : Value), vs[j]? = some v → (i + j, v) ∈ lv_args i vs
  | [], i, _, j, v, h => by simp at h
  | w :: vs, i, hc, j, v, h => by
    have hw : w.category = 1 := hc w List.mem_cons_self
    unfold lv_args
    rw [if_neg (by rw [hw]; decide)]
    cases j with
    | zero =>
      cases h
      exact List.mem_cons_self
    | succ j =>
      have := lv_args_c1 vs (i + 1) (fun x hx => hc x (List.mem_cons_of_mem _ hx)) j v h
      rw [show i + (j + 1) = i + 1 + j by omega]
      exact List.mem_cons_of_mem _ this
theorem lg_sl_c1 : ∀ (vs : List Value), (∀ v ∈ vs, v.category = 1) → (lg_sl vs).length = vs.length
  | [], _ => rfl
  | w :: vs, hc => by
    have hw : w.category = 1 := hc w List.mem_cons_self
    have := lg_sl_c1 vs (fun x hx => hc x (List.mem_cons_of_mem _ hx))
    unfold lg_sl at this ⊢
    rw [List.flatMap_cons, List.length_append, this, if_neg (by rw [hw]; decide)]
    simp
    omega
theorem enL_entry {vs : List Value} {n : Nat} (h : vs.length ≤ n) (hc : ∀ v ∈ vs, v.category = 1) : enL ((lg_sl vs ++ List.replicate (n - (lg_sl vs).length) Slot.unset).toArray) (ls0 vs n) := by
  have h1 := lv_entry vs (n := n) (by rw [lg_sl_c1 vs hc]; exact h)
  refine ⟨by rw [h1.1]; simp [ls0]; omega, h1.2.1, fun i v hi => ?_⟩
  have hlt : i < vs.length := by
    rcases Nat.lt_or_ge i vs.length with q | q
    · exact q
    · unfold ls0 at hi
      rw [List.getElem?_append_right (by simp; exact q)] at hi
      rw [List.getElem?_replicate] at hi
      split at hi <;> cases hi
  have h2 : vs[i]? = some v := by
    unfold ls0 at hi
    rw [List.getElem?_append_left (by simp; exact hlt), List.getElem?_map] at hi
    cases h3 : vs[i]? with
    | none => rw [h3] at hi; cases hi
    | some w => rw [h3] at hi; cases hi; rfl
  have := lv_args_c1 vs 0 hc i v h2
  rw [Nat.zero_add] at this
  exact h1.2.2 _ this
theorem CT.of {s0 : State} {D : va_G} {ids : Nat → ClassId} {l : Launch} {y : MethodName} {cc : ByteArray} {nL : Nat} {ret : Option FieldType} {rm : Room} {Sp : Spt} (hy : plainFor y = true) (hK : va_K D vwCl (tysL ids) s0)
    (body : ∀ (as : List Value) (z : Nat) (f : Fm) (K : Kr) (E : Ej), Sp as z f K → EnX s0 D ids l y.cls cc nL ret y.name rm K E → as.length ≤ nL ∧ (∀ v ∈ as, v.category = 1) ∧ E 0 (ls0 as nL) [] (z, rm.cells, rm.slots) f) : CT s0 D ids l y cc nL ret rm Sp := by
  intro as z f K hSp
  refine va_MetF (cc := cc) (maxL := nL) (ret := ret) hy rfl ?_
  intro p e s m args below meth c s₁ B hml hv
  obtain ⟨rfl, hW0, hW⟩ := hv
  have hts := atoms_spec (ws := Cond.code y cc nL ret :: bigW) B.pre
  obtain ⟨hl, hc, hE⟩ := body as z f K _ hSp ⟨p, e, s, m, as.toArray, below, meth, c, ⟨B.exec, B.bytes, hml, findClass_of_methodNamed B.named, fun w hw => hts w (List.mem_cons_of_mem _ hw)⟩, B.returns, B.notSynchronized, (name_of_methodNamed B.named B.method).1, ⟨hW0, by rw [hW.1]; exact hW.2.1, fun q hq => hW.2.2.1 q hq⟩, va_K.moved hW0.alike hK, rfl⟩
  rw [lg_entry_eq]
  have h1 := hE s.heap [] _ (enL_entry hl hc) (by simp [ls0]; omega) hW (fun q hq => by cases hq) (Nat.le_refl _) (Nat.le_refl _)
  exact W.cs (by dsimp only; omega) (by dsimp only; omega) h1
section EY
variable {s0 : State} {D : va_G} {ids : Nat → ClassId} {l : Launch} {own : String} {cc : ByteArray} {nL : Nat} {ret : Option FieldType} {nm : String} {rm : Room} {K : Kr} {E : Ej} {pc : Nat} {k : Xf}
def xcopy (t : Nat) (nx : Xf) (ls : Ls) (st : List Value) (z : Zz) (f : Fm) (E : Ej) (R : Kr) : Prop := match st with
  | .int n :: .int dp :: .ref a :: .int sp :: .ref a0 :: r => match f a0 with
    | some (.inl (t0, n0, .inl g0)) => match f a with
      | some (.inl (t1, n1, .inl g1)) => t0 = t ∧ t1 = t ∧ c1s r ∧ ¬ sp < 0 ∧ ¬ dp < 0 ∧ ¬ n < 0 ∧ sp.toNatClampNeg + n.toNatClampNeg ≤ n0 ∧ dp.toNatClampNeg + n.toNatClampNeg ≤ n1 ∧ (∀ i, i < n.toNatClampNeg → fits (tyA t) (.int (g0 (sp.toNatClampNeg + i))) = true) ∧ nx ls r z (va_up f a (some (.inl (t, n1, .inl (va_cpy g0 g1 sp.toNatClampNeg dp.toNatClampNeg n.toNatClampNeg))))) E R
      | _ => False
    | _ => False
  | _ => False
theorem sd_copy (X : EnX s0 D ids l own cc nL ret nm rm K E) {t index : Nat} (ht : t < 5) (hprim : refKind (tyA t) = false) (hd : decode cc pc = .ok (.invokestatic index, 3)) (hlink : Cond.methodLink own index arraycopyName ∈ bigW) (hnat : Cond.native arraycopyName ∈ bigW) (hstat : Cond.static arraycopyName ∈ bigW) (hini : Cond.initialized "java/lang/System" ∈ bigW) (hfr : 1 ≤ rm.frames) (hlo : 8 + (nativeFrameWords "java/lang/System" "arraycopy" 5 + 11) ≤ rm.locals) (hk : Sd E K (pc + 3) k) : Sd E K pc (xcopy t k) := by
  obtain ⟨p, e, s, m, args, below, meth, c, ⟨hx, hb, hml, hown, hts⟩, hr, hlk, hnm, hS, hK, rfl⟩ := X
  intro ls st z f h H locs A hA hn hW hL b1 b2
  unfold xcopy at h
  split at h
  · rename_i n dp a sp a0 r
    split at h
    · rename_i t0 n0 g0 hf0
      split at h
      · rename_i t1 n1 g1 hf1
        obtain ⟨rfl, rfl, hc, h1, h2, h3, h4, h5, hfit, h⟩ := h
        have hc2 : (r.map fun v => v.category).sum ≤ 8 := hc
        obtain ⟨-, hat0⟩ := hW.mine hf0 (by simp [ceOwn, ht])
        obtain ⟨ho, hat1⟩ := hW.mine hf1 (by simp [ceOwn, ht])
        have hc0 : H[a0]? = some (arrV (ids t1) n0 (fun j => .int (g0 j))) := hat0
        have hc1 : H[a]? = some (arrV (ids t1) n1 (fun j => .int (g1 j))) := hat1
        have nn : ∀ z : Int32, ¬ z < 0 → z.toInt = (z.toNatClampNeg : Int) := by
          intro z hz
          have hz0 : (0 : Int) ≤ z.toInt := by
            have := Int32.not_lt.mp hz
            simpa using Int32.le_iff_toInt_le.mp this
          show z.toInt = ((z.toInt.toNat : Nat) : Int)
          omega
        intro T hT X
        obtain ⟨-, k0, hk0, cm0, hkk0⟩ := (hK.2 t1 _ (tysL_at (ids := ids) ht)).1 n0 (fun j => .int (g0 j))
        obtain ⟨-, k1, hk1, cm1, hkk1⟩ := (hK.2 t1 _ (tysL_at (ids := ids) ht)).1 n1 (fun j => .int (g1 j))
        obtain ⟨vm', X', step⟩ := X.arraycopy hx hown (hts _ hlink) (hts _ hnat) (hts _ hstat) (hts _ hini) (src := a0) (dst := a) (cs := arrV (ids t1) n0 (fun j => .int (g0 j))) (cd := arrV (ids t1) n1 (fun j => .int (g1 j))) (srcPos := sp) (destPos := dp) (n := n) (by rw [hT]; exact hc0) (by rw [hT]; exact hc1)
          (fun _ h => by cases h) (fun _ h => by cases h) (fun h => by cases h) (fun h => by cases h) hk0 hk1 hkk0 hkk1 (by simp [hprim]) h1 h2 h3
          (by rw [nn sp h1, nn n h3]; show ¬ _ > ((arrV (ids t1) n0 (fun j => .int (g0 j))).slots.size : Int); rw [arrV_size]; omega)
          (by rw [nn dp h2, nn n h3]; show ¬ _ > ((arrV (ids t1) n1 (fun j => .int (g1 j))).slots.size : Int); rw [arrV_size]; omega)
          (fun vm₁ _ i hi => by
            have e : (arrV (ids t1) n0 (fun j => .int (g0 j))).slots.getD (sp.toNatClampNeg + i) .null = .int (g0 (sp.toNatClampNeg + i)) := by
              rw [Array.getD_eq_getD_getElem?, arrV_read _ _ (by omega)]
              rfl
            refine ⟨?_, ?_⟩
            · rw [e]
              exact hfit i hi
            · rw [e]
              exact trivial)
          (g := F0 m pc A (.int n :: .int dp :: .ref a :: .int sp :: .ref a0 :: r)) rfl (by rw [hml]; exact hA.1.trans hn) (rest := r) rfl (by rw [hb]; exact hd) hfr (by show 2 * 0 + _ + _ ≤ _; omega)
        have e1 : copied (arrV (ids t1) n0 (fun j => .int (g0 j))) (arrV (ids t1) n1 (fun j => .int (g1 j))) sp dp n = arrV (ids t1) n1 (fun j => .int (va_cpy g0 g1 sp.toNatClampNeg dp.toNatClampNeg n.toNatClampNeg j)) := va_copied (fun z => .int z) (ids t1) (ids t1) g0 g1 h4
        rw [e1] at X' step
        generalize hcc : arrV (ids t1) n1 (fun j => .int (va_cpy g0 g1 sp.toNatClampNeg dp.toNatClampNeg n.toNatClampNeg j)) = cell at X' step
        have hl : a < H.size := (Array.getElem?_eq_some_iff.mp hc1).1
        have hheap : ((T.setVm vm').setCell a cell).heap = H.setIfInBounds a cell := by rw [← hT]; rfl
        have oq : ∀ q : Nat, q ≠ a → (H.setIfInBounds a cell)[q]? = H[q]? := fun q hq => by simp [Array.getElem?_setIfInBounds, Ne.symm hq]
        have hW2 : enW s0 D ids z.1 (va_up f a (some (.inl (t1, n1, .inl (va_cpy g0 g1 sp.toNatClampNeg dp.toNatClampNeg n.toNatClampNeg))))) (H.setIfInBounds a cell) := hW.set hf1 (by simp [ceOwn, ht]) (by simp [ceOwn, ht]) (by
          show (H.setIfInBounds a cell)[a]? = some (arrV (ids t1) n1 (fun j => .int (va_cpy g0 g1 sp.toNatClampNeg dp.toNatClampNeg n.toNatClampNeg j)))
          rw [hcc]
          simp [Array.getElem?_setIfInBounds, hl]) (by simp) oq
        obtain ⟨t9, a1, a2⟩ := hk ls _ z _ h _ (locs ++ _) A hA hn hW2 (fun q hq => by
          rcases List.mem_append.mp hq with w | w
          · exact hL q w
          · obtain ⟨z, -, hz⟩ := List.mem_map.mp w
            rw [← hz]
            exact ho) b1 b2 _ hheap X'
        exact ⟨t9, step t9 a1, a2⟩
      · exact absurd h id
    · exact absurd h id
  · exact absurd h id
def xcopyF (t : Nat) (nx : Xf) (ls : Ls) (st : List Value) (z : Zz) (f : Fm) (E : Ej) (R : Kr) : Prop := match st with
  | .int n :: .int dp :: .ref a :: .int sp :: .ref a0 :: r => match f a0 with
    | some (.inl (t0, n0, .inl g0)) => match f a with
      | some (.inl (t1, n1, .inl g1)) => t0 = t ∧ t1 = t ∧ c1s r ∧ sp = nI 0 ∧ dp = nI 0 ∧ n = nI n1 ∧ n1 < 65536 ∧ n1 ≤ n0 ∧ (∀ i, i < n1 → fits (tyA t) (.int (g0 i)) = true) ∧ nx ls r z (va_up f a (some (.inl (t, n1, .inl g0)))) E R
      | _ => False
    | _ => False
  | _ => False
theorem sd_copyF (X : EnX s0 D ids l own cc nL ret nm rm K E) {t index : Nat} (ht : t < 5) (hprim : refKind (tyA t) = false) (hd : decode cc pc = .ok (.invokestatic index, 3)) (hlink : Cond.methodLink own index arraycopyName ∈ bigW) (hnat : Cond.native arraycopyName ∈ bigW) (hstat : Cond.static arraycopyName ∈ bigW) (hini : Cond.initialized "java/lang/System" ∈ bigW) (hfr : 1 ≤ rm.frames) (hlo : 8 + (nativeFrameWords "java/lang/System" "arraycopy" 5 + 11) ≤ rm.locals) (hk : Sd E K (pc + 3) k) : Sd E K pc (xcopyF t k) := by
  obtain ⟨p, e, s, m, args, below, meth, c, ⟨hx, hb, hml, hown, hts⟩, hr, hlk, hnm, hS, hK, rfl⟩ := X
  intro ls st z f h H locs A hA hn hW hL b1 b2
  unfold xcopyF at h
  split at h
  · rename_i n dp a sp a0 r
    split at h
    · rename_i t0 n0 g0 hf0
      split at h
      · rename_i t1 n1 g1 hf1
        obtain ⟨rfl, rfl, hc, hsp, hdp, hnn, hlt, hle, hfit0, h⟩ := h
        have e0 : (nI 0).toNatClampNeg = 0 := rfl
        have en : (nI n1).toNatClampNeg = n1 := nI_clamp (by omega)
        have h1 : ¬ sp < 0 := by rw [hsp]; decide
        have h2 : ¬ dp < 0 := by rw [hdp]; decide
        have h3 : ¬ n < 0 := by rw [hnn]; exact nI_pos (by omega)
        have h4 : sp.toNatClampNeg + n.toNatClampNeg ≤ n0 := by rw [hsp, hnn, e0, en]; omega
        have h5 : dp.toNatClampNeg + n.toNatClampNeg ≤ n1 := by rw [hdp, hnn, e0, en]; omega
        have hfit : ∀ i, i < n.toNatClampNeg → fits (tyA t1) (.int (g0 (sp.toNatClampNeg + i))) = true := fun i hi => by
          rw [hnn, en] at hi
          rw [hsp, e0, Nat.zero_add]
          exact hfit0 i hi
        have hcp : arrV (ids t1) n1 (fun j => .int (va_cpy g0 g1 sp.toNatClampNeg dp.toNatClampNeg n.toNatClampNeg j)) = arrV (ids t1) n1 (fun j => .int (g0 j)) := by
          rw [hsp, hdp, hnn, e0, en]
          unfold arrV
          congr 1
          refine congrArg Array.ofFn (funext fun j => ?_)
          have hj : 0 ≤ j.val ∧ j.val < 0 + n1 := ⟨Nat.zero_le _, by have := j.isLt; omega⟩
          show Value.int (if 0 ≤ j.val ∧ j.val < 0 + n1 then g0 (0 + (j.val - 0)) else g1 j.val) = Value.int (g0 j.val)
          rw [if_pos hj, Nat.zero_add, Nat.sub_zero]
        have hc2 : (r.map fun v => v.category).sum ≤ 8 := hc
        obtain ⟨-, hat0⟩ := hW.mine hf0 (by simp [ceOwn, ht])
        obtain ⟨ho, hat1⟩ := hW.mine hf1 (by simp [ceOwn, ht])
        have hc0 : H[a0]? = some (arrV (ids t1) n0 (fun j => .int (g0 j))) := hat0
        have hc1 : H[a]? = some (arrV (ids t1) n1 (fun j => .int (g1 j))) := hat1
        have nn : ∀ z : Int32, ¬ z < 0 → z.toInt = (z.toNatClampNeg : Int) := by
          intro z hz
          have hz0 : (0 : Int) ≤ z.toInt := by
            have := Int32.not_lt.mp hz
            simpa using Int32.le_iff_toInt_le.mp this
          show z.toInt = ((z.toInt.toNat : Nat) : Int)
          omega
        intro T hT X
        obtain ⟨-, k0, hk0, cm0, hkk0⟩ := (hK.2 t1 _ (tysL_at (ids := ids) ht)).1 n0 (fun j => .int (g0 j))
        obtain ⟨-, k1, hk1, cm1, hkk1⟩ := (hK.2 t1 _ (tysL_at (ids := ids) ht)).1 n1 (fun j => .int (g1 j))
        obtain ⟨vm', X', step⟩ := X.arraycopy hx hown (hts _ hlink) (hts _ hnat) (hts _ hstat) (hts _ hini) (src := a0) (dst := a) (cs := arrV (ids t1) n0 (fun j => .int (g0 j))) (cd := arrV (ids t1) n1 (fun j => .int (g1 j))) (srcPos := sp) (destPos := dp) (n := n) (by rw [hT]; exact hc0) (by rw [hT]; exact hc1)
          (fun _ h => by cases h) (fun _ h => by cases h) (fun h => by cases h) (fun h => by cases h) hk0 hk1 hkk0 hkk1 (by simp [hprim]) h1 h2 h3
          (by rw [nn sp h1, nn n h3]; show ¬ _ > ((arrV (ids t1) n0 (fun j => .int (g0 j))).slots.size : Int); rw [arrV_size]; omega)
          (by rw [nn dp h2, nn n h3]; show ¬ _ > ((arrV (ids t1) n1 (fun j => .int (g1 j))).slots.size : Int); rw [arrV_size]; omega)
          (fun vm₁ _ i hi => by
            have e : (arrV (ids t1) n0 (fun j => .int (g0 j))).slots.getD (sp.toNatClampNeg + i) .null = .int (g0 (sp.toNatClampNeg + i)) := by
              rw [Array.getD_eq_getD_getElem?, arrV_read _ _ (by omega)]
              rfl
            refine ⟨?_, ?_⟩
            · rw [e]
              exact hfit i hi
            · rw [e]
              exact trivial)
          (g := F0 m pc A (.int n :: .int dp :: .ref a :: .int sp :: .ref a0 :: r)) rfl (by rw [hml]; exact hA.1.trans hn) (rest := r) rfl (by rw [hb]; exact hd) hfr (by show 2 * 0 + _ + _ ≤ _; omega)
        have e1 : copied (arrV (ids t1) n0 (fun j => .int (g0 j))) (arrV (ids t1) n1 (fun j => .int (g1 j))) sp dp n = arrV (ids t1) n1 (fun j => .int (va_cpy g0 g1 sp.toNatClampNeg dp.toNatClampNeg n.toNatClampNeg j)) := va_copied (fun z => .int z) (ids t1) (ids t1) g0 g1 h4
        rw [e1, hcp] at X' step
        generalize hcc : arrV (ids t1) n1 (fun j => .int (g0 j)) = cell at X' step
        have hl : a < H.size := (Array.getElem?_eq_some_iff.mp hc1).1
        have hheap : ((T.setVm vm').setCell a cell).heap = H.setIfInBounds a cell := by rw [← hT]; rfl
        have oq : ∀ q : Nat, q ≠ a → (H.setIfInBounds a cell)[q]? = H[q]? := fun q hq => by simp [Array.getElem?_setIfInBounds, Ne.symm hq]
        have hW2 : enW s0 D ids z.1 (va_up f a (some (.inl (t1, n1, .inl g0)))) (H.setIfInBounds a cell) := hW.set hf1 (by simp [ceOwn, ht]) (by simp [ceOwn, ht]) (by
          show (H.setIfInBounds a cell)[a]? = some (arrV (ids t1) n1 (fun j => .int (g0 j)))
          rw [hcc]
          simp [Array.getElem?_setIfInBounds, hl]) (by simp) oq
        obtain ⟨t9, a1, a2⟩ := hk ls _ z _ h _ (locs ++ _) A hA hn hW2 (fun q hq => by
          rcases List.mem_append.mp hq with w | w
          · exact hL q w
          · obtain ⟨z, -, hz⟩ := List.mem_map.mp w
            rw [← hz]
            exact ho) b1 b2 _ hheap X'
        exact ⟨t9, step t9 a1, a2⟩
      · exact absurd h id
    · exact absurd h id
  · exact absurd h id
end EY
