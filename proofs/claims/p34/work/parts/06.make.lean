/-! new objects and arrays -/
section EM
variable {s0 : State} {D : va_G} {ids : Nat → ClassId} {l : Launch} {own : String} {cc : ByteArray} {nL : Nat} {ret : Option FieldType} {nm : String} {rm : Room} {K : Kr} {E : Ej} {pc : Nat} {k : Xf}
theorem sd_obj (X : EnX s0 D ids l own cc nL ret nm rm K E) {idx : Nat} (hd : decode cc pc = .ok (.invokespecial idx, 3)) (hlink : Cond.methodLink own idx objectInit ∈ bigW) (hfr : 1 ≤ rm.frames) (hlo : 20 ≤ rm.locals) (hk : Sd E K (pc + 3) k) : Sd E K pc (fun ls st z f E R => match st with
    | .ref _ :: r => c1s r ∧ k ls r z f E R
    | _ => False) := by
  obtain ⟨p, e, s, m, args, below, meth, c, ⟨hx, hb, hml, hown, hts⟩, hr, hlk, hnm, hS, hK, rfl⟩ := X
  intro ls st z f h H locs A hA hn hW hL h1 h2
  split at h
  · rename_i a r
    obtain ⟨hc, h⟩ := h
    have hc2 : (r.map fun v => v.category).sum ≤ 8 := hc
    exact W.objInit hx hb hown (hts _ hlink) (hts (.instanceMethod objectInit) (by decide +kernel)) (hts (.code objectInit ⟨#[0xb1]⟩ 1 none) (by decide +kernel)) rfl (by rw [hml]; exact hA.1.trans hn) rfl hd hfr (by have : 2 * (F0 m pc A (Value.ref a :: r)).monitorRoom + (r.map fun v => v.category).sum ≤ 8 := lv_room hc2; omega) (hk ls _ z f h H locs A hA hn hW hL h1 h2)
  · exact absurd h id
theorem sd_new (X : EnX s0 D ids l own cc nL ret nm rm K E) {ci index N : Nat} {C : String} {T : u_T} {ty : Nat → FieldType} {fs : List Value} (hd : decode cc pc = .ok (.new index, 3)) (hc : clsOk ci C T N ty) (hfs : ∀ j, j < N → defaultValue (ty j) = vp_V fs j) (hcl : Cond.classLink own index C ∈ bigW) (hin : Cond.instantiable C N ∈ bigW) (hini : Cond.initialized C ∈ bigW) (hk : Sd E K (pc + 3) k) : Sd E K pc (xnew ci N fs k) := by
  obtain ⟨p, e, s, m, args, below, meth, c, ⟨hx, hb, hml, hown, hts⟩, hr, hlk, hnm, hS, hK, rfl⟩ := X
  intro ls st z f h H locs A hA hn hW hL h1 h2
  obtain ⟨b1, b2, h⟩ := h
  have hKn := hK.1 _ _ hc.2.1
  refine W.newcK hx hb hown (hts _ hcl) (hts _ hin) (hts _ hini) rfl hd (by omega) (by omega) hKn.2.1 (h := z.1) hW.1 fun H1 kC hkC e1 z1 o1 => ?_
  have hat : va_at D vwCl (z.1, cvE ids (.inr (ci, fs))) H1 := ⟨_, hc.2.1, (u_born ty hts hc.2.2.1 hKn hkC e1 hc.2.2.2.1).to hfs⟩
  have hE := hk ls _ (z.1 + 1, z.2.1 - 1, z.2.2 - N) _ h H1 locs A hA hn (hW.push (ce := .inr (ci, fs)) (by simp [ceOwn, hc.1]) hat z1 o1) hL (by dsimp only; omega) (by dsimp only; omega)
  exact W.cs (by dsimp only; omega) (by dsimp only; omega) hE
theorem sd_newa (X : EnX s0 D ids l own cc nL ret nm rm K E) {t : Nat} {atype : ArrayType} (ht : t < 5) (hty : newarray.typeOf atype = tyA t) (hdv : defaultValue (tyA t) = .int 0) (hcb : componentBytes (tyA t) ≤ 8) (hd : decode cc pc = .ok (.newarray atype, 2)) (harr : Cond.arrayClass (tyA t) ∈ bigW) (hname : ∀ (cA : ClassId), s0.vm.findClass ("[" ++ (tyA t).toString) = some cA → cA = ids t) (hk : Sd E K (pc + 2) k) : Sd E K pc (xnewa t k) := by
  obtain ⟨p, e, s, m, args, below, meth, c, ⟨hx, hb, hml, hown, hts⟩, hr, hlk, hnm, hS, hK, rfl⟩ := X
  intro ls st z f h H locs A hA hn hW hL h1 h2
  unfold xnewa at h
  split at h
  · rename_i n r
    obtain ⟨b0, b3, b1, b2, h⟩ := h
    refine va_newaK hx hb (by rw [hty]; exact hts _ harr) rfl hd rfl b0 rfl (by rw [hty]; exact Nat.le_trans (Nat.mul_le_mul b3 hcb) (Nat.le_of_ble_eq_true rfl)) (by omega) (by omega) (h := z.1) hW.1 fun H1 cA e1 z1 o1 hAr hNm => ?_
    rw [hty] at e1 hNm
    have hcA : cA = ids t := hname cA (by rw [← hS.1.alike.findClass]; exact hNm)
    subst hcA
    rw [hdv] at e1
    have hE := hk ls _ (z.1 + 1, z.2.1 - 1, z.2.2 - n.toNatClampNeg) _ h H1 locs A hA hn (hW.push (ce := .inl (t, n.toNatClampNeg, .inl (fun _ => 0))) (by simp [ceOwn, ht]) e1 z1 o1) hL (by dsimp only; omega) (by dsimp only; omega)
    exact W.cs (by dsimp only; omega) (by dsimp only; omega) hE
  · exact absurd h id
/-- an array of references to our countries -/
def xnewq (nx : Xf) (ls : Ls) (st : List Value) (z : Zz) (f : Fm) (E : Ej) (R : Kr) : Prop := match st with
  | .int n :: r => ¬ n < 0 ∧ n.toNatClampNeg ≤ 65536 ∧ 1 ≤ z.2.1 ∧ n.toNatClampNeg ≤ z.2.2 ∧ nx ls (.ref z.1 :: r) (z.1 + 1, z.2.1 - 1, z.2.2 - n.toNatClampNeg) (va_up f z.1 (some (.inl (3, n.toNatClampNeg, .inr (fun _ => none))))) E R
  | _ => False
theorem sd_newq (X : EnX s0 D ids l own cc nL ret nm rm K E) {index : Nat} (hd : decode cc pc = .ok (.anewarray index, 3)) (hcl : Cond.classLink own index "FortHeralds$Country" ∈ bigW) (hover : va_AO "FortHeralds$Country" s0) (hk : Sd E K (pc + 3) k) : Sd E K pc (xnewq k) := by
  obtain ⟨p, e, s, m, args, below, meth, c, ⟨hx, hb, hml, hown, hts⟩, hr, hlk, hnm, hS, hK, rfl⟩ := X
  intro ls st z f h H locs A hA hn hW hL h1 h2
  unfold xnewq at h
  split at h
  · rename_i n r
    obtain ⟨b0, b3, b1, b2, h⟩ := h
    refine W.anew hx hb hown (hts _ hcl) (va_AO.use (va_AO.moved hS.1.alike hover)) rfl hd rfl b0 (Nat.le_trans (Nat.mul_le_mul b3 (Nat.le_refl 4)) (Nat.le_of_ble_eq_true rfl)) (by omega) (by omega) fun cA kA comp f1 f2 f3 f4 => ?_
    generalize hH1 : H.push ({ cls := cA, slots := Array.replicate n.toNatClampNeg .null, vm := .none } : Cell) = H1
    have hz0 : H.size = z.1 := hW.1
    have z1 : H1.size = z.1 + 1 := by rw [← hH1, Array.size_push, hz0]
    have e1 : H1[z.1]? = some (arrV cA n.toNatClampNeg (fun _ => .null)) := by rw [← hz0, ← hH1, Array.getElem?_push_size, ← arrV_new]
    have o1 : ∀ q : Nat, q < z.1 → H1[q]? = H[q]? := fun q hq => by rw [← hH1, Array.getElem?_push, if_neg (by omega)]
    obtain ⟨-, kA9, comp9, g1, g2, g3, g4⟩ := hK.2 3 _ (tysL_at (ids := ids) (t := 3) (by omega))
    have hcA : cA = ids 3 := Option.some.inj (f1.symm.trans g4)
    subst hcA
    have hE := hk ls _ (z.1 + 1, z.2.1 - 1, z.2.2 - n.toNatClampNeg) _ h H1 locs A hA hn (hW.push (ce := .inl (3, n.toNatClampNeg, .inr (fun _ => none))) rfl e1 z1 o1) hL (by dsimp only; omega) (by dsimp only; omega)
    rw [hz0]
    exact W.cs (by dsimp only; omega) (by dsimp only; omega) hE
  · exact absurd h id
/-- a country put into an array of countries -/
def xastq (nx : Xf) (ls : Ls) (st : List Value) (z : Zz) (f : Fm) (E : Ej) (R : Kr) : Prop := match st with
  | .ref v :: .int i :: .ref a :: r => match f a with
    | some (.inl (t, n, .inr g)) => t = 3 ∧ vp_in i n ∧ (∃ fs, f v = some (.inr (1, fs))) ∧ nx ls r z (va_up f a (some (.inl (3, n, .inr (va_up g i.toNatClampNeg (some v)))))) E R
    | _ => False
  | _ => False
theorem sd_astq (X : EnX s0 D ids l own cc nL ret nm rm K E) (hd : decode cc pc = .ok (.aastore, 1)) (hk : Sd E K (pc + 1) k) : Sd E K pc (xastq k) := by
  obtain ⟨p, e, s, m, args, below, meth, c, ⟨hx, hb, hml, hown, hts⟩, hr, hlk, hnm, hS, hK, rfl⟩ := X
  intro ls st z f h H locs A hA hn hW hL h1 h2
  unfold xastq at h
  split at h
  · rename_i v i a r
    split at h
    · rename_i t n g hf
      obtain ⟨rfl, hin, ⟨fs, hv⟩, h⟩ := h
      have hlt : i.toNatClampNeg < n := Nat.not_le.mp fun q => hin (Or.inr q)
      have h0 : ¬ i < 0 := fun q => hin (Or.inl q)
      obtain ⟨-, r', hr', cellV, g1, g2, g3, -⟩ := hW.mine hv rfl
      obtain ⟨ho, hat⟩ := hW.mine hf rfl
      have ha0 : H[a]? = some (arrV (ids 3) n (fun j => va_rf (g j))) := hat
      have hcls := (hK.1 1 _ (rfl : vwCl[1]? = some (RX1, TX1, 10))).2
      obtain ⟨kA, comp, k1, k2, k3, -⟩ := (hK.2 3 _ (tysL_at (ids := ids) (t := 3) (by omega))).2
      have hcomp : comp = D.1 1 := Option.some.inj (k3.symm.trans hcls.1)
      subst hcomp
      obtain ⟨kC, hkC, -⟩ := hcls.2
      refine W.aast hx hb ha0 (fun q h => by cases h) (fun h => by cases h) k1 k2 rfl hkC ⟨h0, by show _ < (arrV _ _ _).slots.size; rw [arrV_size]; exact hlt⟩ g1 (fun q h => by rw [g3] at h; cases h) (by rw [g2]; exact hkC) (by rw [g2]; exact va_assign hcls) rfl rfl hd fun H1 e1 z1 o1 => ?_
      refine hk ls _ z _ h H1 _ A hA hn (hW.set (ce := .inl (3, n, .inr (va_up g i.toNatClampNeg (some v)))) hf rfl rfl ?_ z1 o1) (fun q hq => ?_) h1 h2
      · show H1[a]? = some (arrV (ids 3) n (fun j => va_rf (va_up g i.toNatClampNeg (some v) j)))
        rw [e1, arrV_store]
        congr 2
        funext q
        by_cases hq : q = i.toNatClampNeg
        · subst hq
          simp [updV, va_up, va_rf]
        · simp [updV, va_up, hq]
      · rcases List.mem_append.mp hq with w | w
        · exact hL q w
        · rw [List.mem_singleton.mp w]
          exact ho
    · exact absurd h id
  · exact absurd h id
end EM
