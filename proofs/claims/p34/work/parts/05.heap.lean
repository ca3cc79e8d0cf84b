/-! reads and writes of the heap -/
def clsOk (ci : Nat) (C : String) (T : u_T) (N : Nat) (ty : Nat → FieldType) : Prop :=
  ci < 12 ∧ vwCl[ci]? = some (C, T, N) ∧ (∀ w ∈ u_ws C T N, w ∈ bigW) ∧ (∀ k, k < N → parseFieldDescriptor (T k).2.2.1 = some (ty k)) ∧ ∀ a, a < N → ∀ b, b < N → a ≠ b → (T a).2.1 ≠ (T b).2.1
section EH
variable {s0 : State} {D : va_G} {ids : Nat → ClassId} {l : Launch} {own : String} {cc : ByteArray} {nL : Nat} {ret : Option FieldType} {nm : String} {rm : Room} {K : Kr} {E : Ej} {pc : Nat} {k : Xf}
theorem va_P1 {q : Nat × va_E} {H : Heap} (h : va_at D vwCl q H) : va_P D vwCl [q] H := fun k x hx => by
  have h0 : k < 1 := (List.getElem?_eq_some_iff.mp hx).1
  rw [show k = 0 by omega] at hx
  cases hx
  exact h
theorem sd_get (X : EnX s0 D ids l own cc nL ret nm rm K E) {ci kf index N : Nat} {C : String} {T : u_T} {ty : Nat → FieldType} (hd : decode cc pc = .ok (.getfield index, 3)) (hc : clsOk ci C T N ty) (hkf : kf < N) (hlink : Cond.fieldLink own index (T kf).1 (T kf).2.1 (T kf).2.2.1 ∈ bigW) (hk : Sd E K (pc + 3) k) : Sd E K pc (xget ci kf k) := by
  obtain ⟨p, e, s, m, args, below, meth, c, ⟨hx, hb, hml, hown, hts⟩, hr, hlk, hnm, hS, hK, rfl⟩ := X
  intro ls st z f h H locs A hA hn hW hL h1 h2
  unfold xget at h
  split at h
  · rename_i a r
    split at h
    · rename_i c0 fs hf
      obtain ⟨rfl, h⟩ := h
      split at h
      · rename_i v hv
        obtain ⟨ho, hat⟩ := hW.mine hf (by simp [ceOwn, hc.1])
        exact va_get hx hb hts hc.2.2.1 hown hK (va_P1 hat) 0 rfl hc.2.1 kf hkf (hts _ hlink) (fun _ h9 => h9) hv hd (hk ls _ z f h H locs A hA hn hW hL h1 h2)
      · exact absurd h id
    · exact absurd h id
  · exact absurd h id
theorem sd_getO (X : EnX s0 D ids l own cc nL ret nm rm K E) {ci kf index : Nat} {r : String × List (String × String × String)} {x : String × String × String} (hd : decode cc pc = .ok (.getfield index, 3)) (hci : 12 ≤ ci) (hr0 : roCl[ci - 12]? = some r) (hx0 : r.2[kf]? = some x) (hlink : Cond.fieldLink own index x.1 x.2.1 x.2.2 ∈ bigW) (hk : Sd E K (pc + 3) k) : Sd E K pc (xget ci kf k) := by
  obtain ⟨p, e, s, m, args, below, meth, c, ⟨hx, hb, hml, hown, hts⟩, hr, hlk, hnm, hS, hK, rfl⟩ := X
  intro ls st z f h H locs A hA hn hW hL h1 h2
  unfold xget at h
  split at h
  · rename_i a r9
    split at h
    · rename_i c0 fs hf
      obtain ⟨rfl, h⟩ := h
      split at h
      · rename_i v hv
        obtain ⟨ho, r1, hr1, -, hro⟩ := hW.ro hf (by simp [ceOwn]; omega)
        have er : r1 = r := Option.some.inj (hr1.symm.trans hr0)
        subst er
        obtain ⟨x1, hx1, hOF⟩ := hro kf v hv
        have ex : x1 = x := Option.some.inj (hx1.symm.trans hx0)
        subst ex
        obtain ⟨cf, kk, i, fd, cell, q1, q2, q3, q4, q5, q6⟩ := hOF.moved (U := s) hS.1.alike
        exact W.getf hx hb hown (hts _ hlink) q1 q2 (by rw [hW.old ho]; exact q3) q4 q5 rfl rfl hd (hk ls _ z f h H locs A hA hn hW hL h1 h2)
      · exact absurd h id
    · exact absurd h id
  · exact absurd h id
theorem sd_gst (X : EnX s0 D ids l own cc nL ret nm rm K E) {index : Nat} {C n d : String} {v : Value} (hZ : va_Z C n d v (fun q => s0.heap.size ≤ q) s0 s0.heap) (hd : decode cc pc = .ok (.getstatic index, 3)) (hlink : Cond.fieldLink own index C n d ∈ bigW) (hk : Sd E K (pc + 3) k) : Sd E K pc (xpush v k) := by
  obtain ⟨p, e, s, m, args, below, meth, c, ⟨hx, hb, hml, hown, hts⟩, hr, hlk, hnm, hS, hK, rfl⟩ := X
  intro ls st z f h H locs A hA hn hW hL h1 h2
  obtain ⟨cf, kf, fi, fd, a, cell, q1, q2, q3, q4, q5, q6, q7, q8⟩ := hZ.moved (U := s) hS.1.alike
  exact W.gets hx hb hown (hts _ hlink) q1 q2 q3 q4 (by rw [hW.old (Array.getElem?_eq_some_iff.mp q5).1]; exact q5) (fun e => by rw [e] at q6; cases q6) q7 rfl hd (hk ls _ z f h H locs A hA hn hW hL h1 h2)
theorem sd_put (X : EnX s0 D ids l own cc nL ret nm rm K E) {ci kf index N : Nat} {C : String} {T : u_T} {ty : Nat → FieldType} (hd : decode cc pc = .ok (.putfield index, 3)) (hc : clsOk ci C T N ty) (hkf : kf < N) (hfin : (T kf).2.2.2 = false) {tf : FieldType} (htf : ty kf = tf) (hlink : Cond.fieldLink own index (T kf).1 (T kf).2.1 (T kf).2.2.1 ∈ bigW) (hk : Sd E K (pc + 3) k) : Sd E K pc (xput ci kf tf k) := by
  obtain ⟨p, e, s, m, args, below, meth, c, ⟨hx, hb, hml, hown, hts⟩, hr, hlk, hnm, hS, hK, rfl⟩ := X
  intro ls st z f h H locs A hA hn hW hL h1 h2
  unfold xput at h
  split at h
  · rename_i v a r
    split at h
    · rename_i c0 fs hf
      obtain ⟨rfl, hl, hok, h⟩ := h
      obtain ⟨ho, hat⟩ := hW.mine hf (by simp [ceOwn, hc.1])
      have hap := va_apart (own := own) hts hc.2.2.1 ty hc.2.2.2.1 hc.2.2.2.2 hK hc.2.1
      obtain ⟨r1, g1, cell, q1, q2, q3, q4⟩ := hat
      have hr : r1 = (C, T, N) := Option.some.inj (g1.symm.trans hc.2.1)
      subst hr
      obtain ⟨hSl, hfc, kC, hkC, hkind⟩ := hK.1 _ _ hc.2.1
      obtain ⟨cf, kf', fi, fd, hi, hsl⟩ := hSl kf hkf
      have hlay := hts _ (hc.2.2.1 _ (u_in_lay hkf))
      unfold u_lay at hlay
      rw [if_neg (by rw [hfin]; decide)] at hlay
      have hst := (u_facts hfc hkC (u_lays hts hc.2.2.1 hkf) hi).1
      have h6 := u_store hfc hkC hkind hlay hi (by rw [hc.2.2.2.1 kf hkf, htf]) hok.1 hok.2
      refine W.putK hx hb (f := fd) ⟨hown, hts _ hlink, ⟨_, _, _, hi⟩, hst⟩ (by rw [q2]; exact h6) q1 q3 (by rw [hsl]; exact k2_hasslot (q4 kf hkf)) rfl rfl hd fun H' e1 e2 e3 => ?_
      rw [hsl] at e1 ⊢
      refine hk ls _ z _ h H' _ A hA hn (hW.set (ce := .inr (_, fs.set kf v)) hf (by simp [ceOwn, hc.1]) (by simp [ceOwn, hc.1]) ⟨_, hc.2.1, t_OB.to (V := updV (vp_V fs) kf v) ⟨_, e1, q2, q3, t_set q4 hap hkf v⟩ (fun j _ => vp_updV_set hl v j)⟩ e2 e3) (fun q hq => ?_) h1 h2
      rcases List.mem_append.mp hq with w | w
      · exact hL q w
      · rw [List.mem_singleton.mp w]
        exact ho
    · exact absurd h id
  · exact absurd h id
theorem sd_putF (X : EnX s0 D ids l own cc nL ret "<init>" rm K E) {ci kf index N : Nat} {C : String} {T : u_T} {ty : Nat → FieldType} (hd : decode cc pc = .ok (.putfield index, 3)) (hc : clsOk ci C T N ty) (hkf : kf < N) (hfin : (T kf).2.2.2 = true) (hdecl : (T kf).1 = own) {tf : FieldType} (htf : ty kf = tf) (hlink : Cond.fieldLink own index (T kf).1 (T kf).2.1 (T kf).2.2.1 ∈ bigW) (hk : Sd E K (pc + 3) k) : Sd E K pc (xput ci kf tf k) := by
  obtain ⟨p, e, s, m, args, below, meth, c, ⟨hx, hb, hml, hown, hts⟩, hr, hlk, hnm, hS, hK, rfl⟩ := X
  intro ls st z f h H locs A hA hn hW hL h1 h2
  unfold xput at h
  split at h
  · rename_i v a r
    split at h
    · rename_i c0 fs hf
      obtain ⟨rfl, hl, hok, h⟩ := h
      obtain ⟨ho, hat⟩ := hW.mine hf (by simp [ceOwn, hc.1])
      have hap := va_apart (own := own) hts hc.2.2.1 ty hc.2.2.2.1 hc.2.2.2.2 hK hc.2.1
      obtain ⟨r1, g1, cell, q1, q2, q3, q4⟩ := hat
      have hr : r1 = (C, T, N) := Option.some.inj (g1.symm.trans hc.2.1)
      subst hr
      obtain ⟨hSl, hfc, kC, hkC, hkind⟩ := hK.1 _ _ hc.2.1
      obtain ⟨cf, kf', fi, fd, hi, hsl⟩ := hSl kf hkf
      have hlay := hts _ (hc.2.2.1 _ (u_in_lay hkf))
      unfold u_lay at hlay
      rw [if_pos hfin] at hlay
      have hst := (u_facts hfc hkC (u_lays hts hc.2.2.1 hkf) hi).1
      have hcf : m.cls = cf := by
        obtain ⟨_, _, c', _, _, _, -, -, hf', -, -, -, hown2, -⟩ := Cond.laysFinal_spec hlay
        have e1 : c' = cf := by have := hi.symm.trans hf'; simp at this; exact this.1.symm
        rw [hdecl] at hown2
        rw [← e1]; exact Option.some.inj (hown.symm.trans hown2)
      have h6 := u_fits hfc hkC hkind (Or.inr hlay) hi (by rw [hc.2.2.2.1 kf hkf, htf]) hok.1 hok.2
      refine W.putFinK hx hb hown (hts _ hlink) hi hst hcf hnm (by rw [q2]; exact h6) q1 q3 (by rw [hsl]; exact k2_hasslot (q4 kf hkf)) rfl rfl hd fun H' e1 e2 e3 => ?_
      rw [hsl] at e1 ⊢
      refine hk ls _ z _ h H' _ A hA hn (hW.set (ce := .inr (_, fs.set kf v)) hf (by simp [ceOwn, hc.1]) (by simp [ceOwn, hc.1]) ⟨_, hc.2.1, t_OB.to (V := updV (vp_V fs) kf v) ⟨_, e1, q2, q3, t_set q4 hap hkf v⟩ (fun j _ => vp_updV_set hl v j)⟩ e2 e3) (fun q hq => ?_) h1 h2
      rcases List.mem_append.mp hq with w | w
      · exact hL q w
      · rw [List.mem_singleton.mp w]
        exact ho
    · exact absurd h id
  · exact absurd h id
theorem sd_iald (X : EnX s0 D ids l own cc nL ret nm rm K E) (hd : decode cc pc = .ok (.iaload, 1)) (hk : Sd E K (pc + 1) k) : Sd E K pc (xald 1 7 k) := by
  obtain ⟨p, e, s, m, args, below, meth, c, ⟨hx, hb, hml, hown, hts⟩, hr, hlk, hnm, hS, hK, rfl⟩ := X
  intro ls st z f h H locs A hA hn hW hL h1 h2
  unfold xald at h
  split at h
  · rename_i i a r
    split at h
    · rename_i t n g hf
      obtain ⟨ht, hin, h⟩ := h
      obtain ⟨cell, q1, q2, q3, q4, q5⟩ := enArr hS hK hW hf
      have hlt : i.toNatClampNeg < n := Nat.not_le.mp fun q => hin (Or.inr q)
      refine W.iald hx hb q1 (by rcases ht with rfl | rfl <;> exact q2) q3 (by rw [q4]; exact hin) (q5 _ hlt) rfl rfl hd (hk ls _ z f h H locs A hA hn hW hL h1 h2)
    · exact absurd h id
  · exact absurd h id
theorem sd_bald (X : EnX s0 D ids l own cc nL ret nm rm K E) (hd : decode cc pc = .ok (.baload, 1)) (hk : Sd E K (pc + 1) k) : Sd E K pc (xald 0 8 k) := by
  obtain ⟨p, e, s, m, args, below, meth, c, ⟨hx, hb, hml, hown, hts⟩, hr, hlk, hnm, hS, hK, rfl⟩ := X
  intro ls st z f h H locs A hA hn hW hL h1 h2
  unfold xald at h
  split at h
  · rename_i i a r
    split at h
    · rename_i t n g hf
      obtain ⟨ht, hin, h⟩ := h
      obtain ⟨cell, q1, q2, q3, q4, q5⟩ := enArr hS hK hW hf
      have hlt : i.toNatClampNeg < n := Nat.not_le.mp fun q => hin (Or.inr q)
      refine W.bald hx hb q1 (by rcases ht with rfl | rfl <;> exact q2) q3 (by rw [q4]; exact hin) (q5 _ hlt) rfl rfl hd (hk ls _ z f h H locs A hA hn hW hL h1 h2)
    · exact absurd h id
  · exact absurd h id
theorem sd_zald (X : EnX s0 D ids l own cc nL ret nm rm K E) (hd : decode cc pc = .ok (.baload, 1)) (hk : Sd E K (pc + 1) k) : Sd E K pc (xald 2 2 k) := by
  obtain ⟨p, e, s, m, args, below, meth, c, ⟨hx, hb, hml, hown, hts⟩, hr, hlk, hnm, hS, hK, rfl⟩ := X
  intro ls st z f h H locs A hA hn hW hL h1 h2
  unfold xald at h
  split at h
  · rename_i i a r
    split at h
    · rename_i t n g hf
      obtain ⟨ht, hin, h⟩ := h
      obtain ⟨cell, q1, q2, q3, q4, q5⟩ := enArr hS hK hW hf
      have hlt : i.toNatClampNeg < n := Nat.not_le.mp fun q => hin (Or.inr q)
      refine W.zald hx hb q1 (by rcases ht with rfl | rfl <;> exact q2) q3 (by rw [q4]; exact hin) (q5 _ hlt) rfl rfl hd (hk ls _ z f h H locs A hA hn hW hL h1 h2)
    · exact absurd h id
  · exact absurd h id
theorem sd_aald (X : EnX s0 D ids l own cc nL ret nm rm K E) {t1 : Nat} (ht1 : (tyA t1).isReference = true) (hd : decode cc pc = .ok (.aaload, 1)) (hk : Sd E K (pc + 1) k) : Sd E K pc (xald t1 t1 k) := by
  obtain ⟨p, e, s, m, args, below, meth, c, ⟨hx, hb, hml, hown, hts⟩, hr, hlk, hnm, hS, hK, rfl⟩ := X
  intro ls st z f h H locs A hA hn hW hL h1 h2
  unfold xald at h
  split at h
  · rename_i i a r
    split at h
    · rename_i t n g hf
      obtain ⟨ht, hin, h⟩ := h
      obtain ⟨cell, q1, q2, q3, q4, q5⟩ := enArr hS hK hW hf
      have hlt : i.toNatClampNeg < n := Nat.not_le.mp fun q => hin (Or.inr q)
      refine W.aald hx hb q1 q2 (by rcases ht with rfl | rfl <;> exact ht1) q3 (by rw [q4]; exact hin) (q5 _ hlt) rfl rfl hd (hk ls _ z f h H locs A hA hn hW hL h1 h2)
    · exact absurd h id
  · exact absurd h id
theorem sd_alen (X : EnX s0 D ids l own cc nL ret nm rm K E) (hd : decode cc pc = .ok (.arraylength, 1)) (hk : Sd E K (pc + 1) k) : Sd E K pc (xalen k) := by
  obtain ⟨p, e, s, m, args, below, meth, c, ⟨hx, hb, hml, hown, hts⟩, hr, hlk, hnm, hS, hK, rfl⟩ := X
  intro ls st z f h H locs A hA hn hW hL h1 h2
  unfold xalen at h
  split at h
  · rename_i a r
    split at h
    · rename_i t n g hf
      obtain ⟨cell, q1, q2, q3, q4, q5⟩ := enArr hS hK hW hf
      exact W.alen (n := nI n) hx hb q1 q2 (by rw [q4]; rfl) rfl rfl hd (hk ls _ z f h H locs A hA hn hW hL h1 h2)
    · exact absurd h id
  · exact absurd h id
theorem enAst {s : State} {z a t n i : Nat} {f : Fm} {H H1 : Heap} {g : Nat → Int32} {v : Int32} (hW : enW s0 D ids z f H) (ht : t < 5) (ha : f a = some (.inl (t, n, .inl g))) (e : ∀ cell : Cell, H[a]? = some cell → H1[a]? = some (cell.setSlot i (.int v))) (hz : H1.size = H.size) (hq : ∀ q : Nat, q ≠ a → H1[q]? = H[q]?) : enW s0 D ids z (va_up f a (some (.inl (t, n, .inl (upd g i v))))) H1 := by
  obtain ⟨ho, hat⟩ := hW.mine ha (by simp [ceOwn, ht])
  refine hW.set ha (by simp [ceOwn, ht]) (by simp [ceOwn, ht]) ?_ hz hq
  have h0 : H[a]? = some (arrV (ids t) n (fun j => .int (g j))) := hat
  show H1[a]? = some (arrV (ids t) n (fun j => .int (upd g i v j)))
  rw [e _ h0, arrV_store]
  congr 2
  funext q
  by_cases hq : q = i
  · subst hq
    simp [updV, upd]
  · simp [updV, upd, hq]
theorem sd_iast (X : EnX s0 D ids l own cc nL ret nm rm K E) (hd : decode cc pc = .ok (.iastore, 1)) (hk : Sd E K (pc + 1) k) : Sd E K pc (xast 1 k) := by
  obtain ⟨p, e, s, m, args, below, meth, c, ⟨hx, hb, hml, hown, hts⟩, hr, hlk, hnm, hS, hK, rfl⟩ := X
  intro ls st z f h H locs A hA hn hW hL h1 h2
  unfold xast at h
  split at h
  · rename_i x i a r
    split at h
    · rename_i t n g hf
      obtain ⟨rfl, hin, h⟩ := h
      obtain ⟨cell, q1, q2, q3, q4, q5⟩ := enArr hS hK hW hf
      refine W.iast hx hb q1 q2 q3 (by rw [q4]; exact hin) rfl rfl hd fun H1 e1 z1 o1 => ?_
      refine hk ls _ z _ h H1 _ A hA hn (enAst (s := s) hW (by omega) hf (fun cell2 h2 => by rw [q1] at h2; cases h2; exact e1) z1 o1) (fun q hq => ?_) h1 h2
      rcases List.mem_append.mp hq with w | w
      · exact hL q w
      · rw [List.mem_singleton.mp w]
        exact (hW.mine hf rfl).1
    · exact absurd h id
  · exact absurd h id
theorem sd_zast (X : EnX s0 D ids l own cc nL ret nm rm K E) (hd : decode cc pc = .ok (.bastore, 1)) (hk : Sd E K (pc + 1) k) : Sd E K pc (xast 2 k) := by
  obtain ⟨p, e, s, m, args, below, meth, c, ⟨hx, hb, hml, hown, hts⟩, hr, hlk, hnm, hS, hK, rfl⟩ := X
  intro ls st z f h H locs A hA hn hW hL h1 h2
  unfold xast at h
  split at h
  · rename_i x i a r
    split at h
    · rename_i t n g hf
      obtain ⟨rfl, hin, h⟩ := h
      obtain ⟨cell, q1, q2, q3, q4, q5⟩ := enArr hS hK hW hf
      refine W.zast hx hb q1 q2 q3 (by rw [q4]; exact hin) rfl rfl hd fun H1 e1 z1 o1 => ?_
      refine hk ls _ z _ h H1 _ A hA hn (enAst (s := s) hW (by omega) hf (fun cell2 h2 => by rw [q1] at h2; cases h2; exact e1) z1 o1) (fun q hq => ?_) h1 h2
      rcases List.mem_append.mp hq with w | w
      · exact hL q w
      · rw [List.mem_singleton.mp w]
        exact (hW.mine hf rfl).1
    · exact absurd h id
  · exact absurd h id
theorem sd_bast (X : EnX s0 D ids l own cc nL ret nm rm K E) (hd : decode cc pc = .ok (.bastore, 1)) (hk : Sd E K (pc + 1) k) : Sd E K pc (xast 0 k) := by
  obtain ⟨p, e, s, m, args, below, meth, c, ⟨hx, hb, hml, hown, hts⟩, hr, hlk, hnm, hS, hK, rfl⟩ := X
  intro ls st z f h H locs A hA hn hW hL h1 h2
  unfold xast at h
  split at h
  · rename_i x i a r
    split at h
    · rename_i t n g hf
      obtain ⟨rfl, hin, h⟩ := h
      obtain ⟨cell, q1, q2, q3, q4, q5⟩ := enArr hS hK hW hf
      refine W.bast hx hb q1 q2 q3 (by rw [q4]; exact hin) rfl rfl hd fun H1 e1 z1 o1 => ?_
      refine hk ls _ z _ h H1 _ A hA hn (enAst (s := s) hW (by omega) hf (fun cell2 h2 => by rw [q1] at h2; cases h2; exact e1) z1 o1) (fun q hq => ?_) h1 h2
      rcases List.mem_append.mp hq with w | w
      · exact hL q w
      · rw [List.mem_singleton.mp w]
        exact (hW.mine hf rfl).1
    · exact absurd h id
  · exact absurd h id
end EH
