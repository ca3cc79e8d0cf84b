/-! what holds at the start, once for all -/
def nestL : List Cond := [(Cond.methodLinkNest "FortHeralds" (9 : Nat) ({ cls := "FortHeralds$Works", name := "<init>", desc := "()V" } : MethodName) "FortHeralds"), (Cond.methodLinkNest "FortHeralds$Works" (11 : Nat) ({ cls := "FortHeralds$Country", name := "<init>", desc := "()V" } : MethodName) "FortHeralds"), (Cond.methodLinkNest "FortHeralds$Country" (17 : Nat) ({ cls := "FortHeralds$Roads", name := "<init>", desc := "()V" } : MethodName) "FortHeralds"), (Cond.methodLinkNest "FortHeralds$Country" (24 : Nat) ({ cls := "FortHeralds$Routes", name := "<init>", desc := "()V" } : MethodName) "FortHeralds"), (Cond.methodLinkNest "FortHeralds$Country" (31 : Nat) ({ cls := "FortHeralds$Letters", name := "<init>", desc := "()V" } : MethodName) "FortHeralds"), (Cond.methodLinkNest "FortHeralds$Works" (20 : Nat) ({ cls := "FortHeralds$Heralds", name := "<init>", desc := "()V" } : MethodName) "FortHeralds"), (Cond.methodLinkNest "FortHeralds$Heralds" (11 : Nat) ({ cls := "FortHeralds$Routes", name := "<init>", desc := "()V" } : MethodName) "FortHeralds"), (Cond.methodLinkNest "FortHeralds" (23 : Nat) ({ cls := "FortHeralds$Country", name := "<init>", desc := "()V" } : MethodName) "FortHeralds"), (Cond.methodLinkNest "FortHeralds$Past" (24 : Nat) ({ cls := "FortHeralds$Country", name := "<init>", desc := "()V" } : MethodName) "FortHeralds"), (Cond.methodLinkNest "FortHeralds" (39 : Nat) ({ cls := "FortHeralds$Distances", name := "<init>", desc := "()V" } : MethodName) "FortHeralds"), (Cond.methodLinkNest "FortHeralds" (46 : Nat) ({ cls := "FortHeralds$Trail", name := "<init>", desc := "()V" } : MethodName) "FortHeralds"), (Cond.methodLinkNest "FortHeralds" (53 : Nat) ({ cls := "FortHeralds$Reader", name := "<init>", desc := "()V" } : MethodName) "FortHeralds"), (Cond.methodLinkNest "FortHeralds$Roads" (20 : Nat) ({ cls := "FortHeralds", name := "copyRows", desc := "([[I[[I)V" } : MethodName) "FortHeralds"), (Cond.methodLinkNest "FortHeralds$Routes" (25 : Nat) ({ cls := "FortHeralds", name := "copyRows", desc := "([[I[[I)V" } : MethodName) "FortHeralds")]
def stL (s0 : State) (V : Nat → Nat) : Prop := va_Z "java/lang/String" "COMPACT_STRINGS" "Z" (.int 1) (fun q => s0.heap.size ≤ q) s0 s0.heap ∧ va_Z "java/lang/Integer" "DigitTens" "[B" (.ref (V 0)) (fun q => s0.heap.size ≤ q) s0 s0.heap ∧ va_Z "java/lang/Integer" "DigitOnes" "[B" (.ref (V 1)) (fun q => s0.heap.size ≤ q) s0 s0.heap ∧ va_Z "FortHeralds$Kind" "FORT" "LFortHeralds$Kind;" (.ref (V 10)) (fun q => s0.heap.size ≤ q) s0 s0.heap ∧ va_Z "FortHeralds$Reader" "KINDS" "[LFortHeralds$Kind;" (.ref (V 3)) (fun q => s0.heap.size ≤ q) s0 s0.heap ∧ va_Z "FortHeralds$1" "$SwitchMap$FortHeralds$Kind" "[I" (.ref (V 4)) (fun q => s0.heap.size ≤ q) s0 s0.heap ∧ va_Z "FortHeraldsLaw" "TEXTS" "[Ljava/lang/String;" (.ref (V 5)) (fun q => s0.heap.size ≤ q) s0 s0.heap ∧ va_Zq "jdk/internal/util/Preconditions" "SIOOBE_FORMATTER" "Ljava/util/function/BiFunction;" (fun q => s0.heap.size ≤ q) s0 s0.heap ∧ (Cond.selects "java/lang/StringBuilder" ⟨"java/lang/AbstractStringBuilder", "ensureCapacityInternal", "(I)V"⟩ ⟨"java/lang/AbstractStringBuilder", "ensureCapacityInternal", "(I)V"⟩).before #[] s0 = true ∧ (Cond.selects "java/lang/StringBuilder" ⟨"java/lang/AbstractStringBuilder", "newCapacity", "(I)I"⟩ ⟨"java/lang/AbstractStringBuilder", "newCapacity", "(I)I"⟩).before #[] s0 = true
def GG (s0 : State) (D : va_G) (ids : Nat → ClassId) (V : Nat → Nat) : Prop :=
  va_K D vwCl (tysL ids) s0 ∧ va_AO "FortHeralds$Country" s0 ∧ (Cond.arrayOver (.array .int)).before #[] s0 = true ∧ (∀ w ∈ nestL, va_Nw w s0) ∧ stL s0 V
section GGs
variable {s0 : State} {D : va_G} {ids : Nat → ClassId} {V : Nat → Nat}
theorem GG.k (G : GG s0 D ids V) : va_K D vwCl (tysL ids) s0 := G.1
theorem GG.ao (G : GG s0 D ids V) : va_AO "FortHeralds$Country" s0 := G.2.1
theorem GG.am (G : GG s0 D ids V) : (Cond.arrayOver (.array .int)).before #[] s0 = true := G.2.2.1
theorem GG.nest_59 (G : GG s0 D ids V) : va_Nw (Cond.methodLinkNest "FortHeralds" (9 : Nat) ({ cls := "FortHeralds$Works", name := "<init>", desc := "()V" } : MethodName) "FortHeralds") s0 := G.2.2.2.1 _ (List.mem_of_getElem? (i := 0) rfl)
theorem GG.nest_65 (G : GG s0 D ids V) : va_Nw (Cond.methodLinkNest "FortHeralds$Works" (11 : Nat) ({ cls := "FortHeralds$Country", name := "<init>", desc := "()V" } : MethodName) "FortHeralds") s0 := G.2.2.2.1 _ (List.mem_of_getElem? (i := 1) rfl)
theorem GG.nest_71 (G : GG s0 D ids V) : va_Nw (Cond.methodLinkNest "FortHeralds$Country" (17 : Nat) ({ cls := "FortHeralds$Roads", name := "<init>", desc := "()V" } : MethodName) "FortHeralds") s0 := G.2.2.2.1 _ (List.mem_of_getElem? (i := 2) rfl)
theorem GG.nest_90 (G : GG s0 D ids V) : va_Nw (Cond.methodLinkNest "FortHeralds$Country" (24 : Nat) ({ cls := "FortHeralds$Routes", name := "<init>", desc := "()V" } : MethodName) "FortHeralds") s0 := G.2.2.2.1 _ (List.mem_of_getElem? (i := 3) rfl)
theorem GG.nest_118 (G : GG s0 D ids V) : va_Nw (Cond.methodLinkNest "FortHeralds$Country" (31 : Nat) ({ cls := "FortHeralds$Letters", name := "<init>", desc := "()V" } : MethodName) "FortHeralds") s0 := G.2.2.2.1 _ (List.mem_of_getElem? (i := 4) rfl)
theorem GG.nest_207 (G : GG s0 D ids V) : va_Nw (Cond.methodLinkNest "FortHeralds$Works" (20 : Nat) ({ cls := "FortHeralds$Heralds", name := "<init>", desc := "()V" } : MethodName) "FortHeralds") s0 := G.2.2.2.1 _ (List.mem_of_getElem? (i := 5) rfl)
theorem GG.nest_212 (G : GG s0 D ids V) : va_Nw (Cond.methodLinkNest "FortHeralds$Heralds" (11 : Nat) ({ cls := "FortHeralds$Routes", name := "<init>", desc := "()V" } : MethodName) "FortHeralds") s0 := G.2.2.2.1 _ (List.mem_of_getElem? (i := 6) rfl)
theorem GG.nest_235 (G : GG s0 D ids V) : va_Nw (Cond.methodLinkNest "FortHeralds" (23 : Nat) ({ cls := "FortHeralds$Country", name := "<init>", desc := "()V" } : MethodName) "FortHeralds") s0 := G.2.2.2.1 _ (List.mem_of_getElem? (i := 7) rfl)
theorem GG.nest_244 (G : GG s0 D ids V) : va_Nw (Cond.methodLinkNest "FortHeralds$Past" (24 : Nat) ({ cls := "FortHeralds$Country", name := "<init>", desc := "()V" } : MethodName) "FortHeralds") s0 := G.2.2.2.1 _ (List.mem_of_getElem? (i := 8) rfl)
theorem GG.nest_258 (G : GG s0 D ids V) : va_Nw (Cond.methodLinkNest "FortHeralds" (39 : Nat) ({ cls := "FortHeralds$Distances", name := "<init>", desc := "()V" } : MethodName) "FortHeralds") s0 := G.2.2.2.1 _ (List.mem_of_getElem? (i := 9) rfl)
theorem GG.nest_276 (G : GG s0 D ids V) : va_Nw (Cond.methodLinkNest "FortHeralds" (46 : Nat) ({ cls := "FortHeralds$Trail", name := "<init>", desc := "()V" } : MethodName) "FortHeralds") s0 := G.2.2.2.1 _ (List.mem_of_getElem? (i := 10) rfl)
theorem GG.nest_306 (G : GG s0 D ids V) : va_Nw (Cond.methodLinkNest "FortHeralds" (53 : Nat) ({ cls := "FortHeralds$Reader", name := "<init>", desc := "()V" } : MethodName) "FortHeralds") s0 := G.2.2.2.1 _ (List.mem_of_getElem? (i := 11) rfl)
theorem GG.nest_424 (G : GG s0 D ids V) : va_Nw (Cond.methodLinkNest "FortHeralds$Roads" (20 : Nat) ({ cls := "FortHeralds", name := "copyRows", desc := "([[I[[I)V" } : MethodName) "FortHeralds") s0 := G.2.2.2.1 _ (List.mem_of_getElem? (i := 12) rfl)
theorem GG.nest_434 (G : GG s0 D ids V) : va_Nw (Cond.methodLinkNest "FortHeralds$Routes" (25 : Nat) ({ cls := "FortHeralds", name := "copyRows", desc := "([[I[[I)V" } : MethodName) "FortHeralds") s0 := G.2.2.2.1 _ (List.mem_of_getElem? (i := 13) rfl)
theorem GG.z0 (G : GG s0 D ids V) : va_Z "java/lang/String" "COMPACT_STRINGS" "Z" (.int 1) (fun q => s0.heap.size ≤ q) s0 s0.heap := G.2.2.2.2.1
theorem GG.z1 (G : GG s0 D ids V) : va_Z "java/lang/Integer" "DigitTens" "[B" (.ref (V 0)) (fun q => s0.heap.size ≤ q) s0 s0.heap := G.2.2.2.2.2.1
theorem GG.z2 (G : GG s0 D ids V) : va_Z "java/lang/Integer" "DigitOnes" "[B" (.ref (V 1)) (fun q => s0.heap.size ≤ q) s0 s0.heap := G.2.2.2.2.2.2.1
theorem GG.z3 (G : GG s0 D ids V) : va_Z "FortHeralds$Kind" "FORT" "LFortHeralds$Kind;" (.ref (V 10)) (fun q => s0.heap.size ≤ q) s0 s0.heap := G.2.2.2.2.2.2.2.1
theorem GG.z4 (G : GG s0 D ids V) : va_Z "FortHeralds$Reader" "KINDS" "[LFortHeralds$Kind;" (.ref (V 3)) (fun q => s0.heap.size ≤ q) s0 s0.heap := G.2.2.2.2.2.2.2.2.1
theorem GG.z5 (G : GG s0 D ids V) : va_Z "FortHeralds$1" "$SwitchMap$FortHeralds$Kind" "[I" (.ref (V 4)) (fun q => s0.heap.size ≤ q) s0 s0.heap := G.2.2.2.2.2.2.2.2.2.1
theorem GG.z6 (G : GG s0 D ids V) : va_Z "FortHeraldsLaw" "TEXTS" "[Ljava/lang/String;" (.ref (V 5)) (fun q => s0.heap.size ≤ q) s0 s0.heap := G.2.2.2.2.2.2.2.2.2.2.1
theorem GG.z7 (G : GG s0 D ids V) : va_Zq "jdk/internal/util/Preconditions" "SIOOBE_FORMATTER" "Ljava/util/function/BiFunction;" (fun q => s0.heap.size ≤ q) s0 s0.heap := G.2.2.2.2.2.2.2.2.2.2.2.1
theorem GG.sl_ensureCapacityInternal (G : GG s0 D ids V) : (Cond.selects "java/lang/StringBuilder" ⟨"java/lang/AbstractStringBuilder", "ensureCapacityInternal", "(I)V"⟩ ⟨"java/lang/AbstractStringBuilder", "ensureCapacityInternal", "(I)V"⟩).before #[] s0 = true := G.2.2.2.2.2.2.2.2.2.2.2.2.1
theorem GG.sl_newCapacity (G : GG s0 D ids V) : (Cond.selects "java/lang/StringBuilder" ⟨"java/lang/AbstractStringBuilder", "newCapacity", "(I)I"⟩ ⟨"java/lang/AbstractStringBuilder", "newCapacity", "(I)I"⟩).before #[] s0 = true := G.2.2.2.2.2.2.2.2.2.2.2.2.2
theorem GG.nm0 (G : GG s0 D ids V) : ∀ (cA : ClassId), s0.vm.findClass ("[" ++ (tyA 0).toString) = some cA → cA = ids 0 := fun cA h => by
  have h1 : s0.vm.findClass ("[" ++ (FieldType.byte).toString) = some (ids 0) := (G.k.2 0 _ (tysL_at (ids := ids) (t := 0) (Nat.le_of_ble_eq_true rfl))).2
  exact Option.some.inj (h.symm.trans h1)
theorem GG.nm1 (G : GG s0 D ids V) : ∀ (cA : ClassId), s0.vm.findClass ("[" ++ (tyA 1).toString) = some cA → cA = ids 1 := fun cA h => by
  have h1 : s0.vm.findClass ("[" ++ (FieldType.int).toString) = some (ids 1) := (G.k.2 1 _ (tysL_at (ids := ids) (t := 1) (Nat.le_of_ble_eq_true rfl))).2
  exact Option.some.inj (h.symm.trans h1)
theorem GG.nm2 (G : GG s0 D ids V) : ∀ (cA : ClassId), s0.vm.findClass ("[" ++ (tyA 2).toString) = some cA → cA = ids 2 := fun cA h => by
  have h1 : s0.vm.findClass ("[" ++ (FieldType.boolean).toString) = some (ids 2) := (G.k.2 2 _ (tysL_at (ids := ids) (t := 2) (Nat.le_of_ble_eq_true rfl))).2
  exact Option.some.inj (h.symm.trans h1)
end GGs
theorem ok_J4 : clsOk 0 RJ4 TJ4 4 tyJ4 := ⟨Nat.le_of_ble_eq_true rfl, rfl, by decide +kernel, tyJ4_ok, nmJ4⟩
theorem ok_X1 : clsOk 1 RX1 TX1 10 tyX1 := ⟨Nat.le_of_ble_eq_true rfl, rfl, by decide +kernel, tyX1_ok, nmX1⟩
theorem ok_X2 : clsOk 2 RX2 TX2 3 tyX2 := ⟨Nat.le_of_ble_eq_true rfl, rfl, by decide +kernel, tyX2_ok, nmX2⟩
theorem ok_X3 : clsOk 3 RX3 TX3 1 tyX3 := ⟨Nat.le_of_ble_eq_true rfl, rfl, by decide +kernel, tyX3_ok, nmX3⟩
theorem ok_X5 : clsOk 4 RX5 TX5 6 tyX5 := ⟨Nat.le_of_ble_eq_true rfl, rfl, by decide +kernel, tyX5_ok, nmX5⟩
theorem ok_X6 : clsOk 5 RX6 TX6 3 tyX6 := ⟨Nat.le_of_ble_eq_true rfl, rfl, by decide +kernel, tyX6_ok, nmX6⟩
theorem ok_X7 : clsOk 6 RX7 TX7 7 tyX7 := ⟨Nat.le_of_ble_eq_true rfl, rfl, by decide +kernel, tyX7_ok, nmX7⟩
theorem ok_X8 : clsOk 7 RX8 TX8 2 tyX8 := ⟨Nat.le_of_ble_eq_true rfl, rfl, by decide +kernel, tyX8_ok, nmX8⟩
theorem ok_X9 : clsOk 8 RX9 TX9 4 tyX9 := ⟨Nat.le_of_ble_eq_true rfl, rfl, by decide +kernel, tyX9_ok, nmX9⟩
theorem ok_X10 : clsOk 9 RX10 TX10 6 tyX10 := ⟨Nat.le_of_ble_eq_true rfl, rfl, by decide +kernel, tyX10_ok, nmX10⟩
theorem ok_X11 : clsOk 10 RX11 TX11 4 tyX11 := ⟨Nat.le_of_ble_eq_true rfl, rfl, by decide +kernel, tyX11_ok, nmX11⟩
theorem ok_X12 : clsOk 11 RX12 TX12 11 tyX12 := ⟨Nat.le_of_ble_eq_true rfl, rfl, by decide +kernel, tyX12_ok, nmX12⟩
def xdead (_ : Ls) (_ : List Value) (_ : Zz) (_ : Fm) (_ : Ej) (_ : Kr) : Prop := False
theorem sd_dead {E : Ej} {K : Kr} (pc : Nat) : Sd E K pc xdead := fun _ _ _ _ h => absurd h id
def xobj (k : Xf) (ls : Ls) (st : List Value) (z : Zz) (f : Fm) (E : Ej) (R : Kr) : Prop := match st with
  | .ref _ :: r => c1s r ∧ k ls r z f E R
  | _ => False
def xmax (k : Xf) (ls : Ls) (st : List Value) (z : Zz) (f : Fm) (E : Ej) (R : Kr) : Prop := match st with
  | .int y :: .int x :: r => c1s r ∧ k ls (.int (if x < y then y else x) :: r) z f E R
  | _ => False
def xmin (k : Xf) (ls : Ls) (st : List Value) (z : Zz) (f : Fm) (E : Ej) (R : Kr) : Prop := match st with
  | .int y :: .int x :: r => c1s r ∧ k ls (.int (if y < x then y else x) :: r) z f E R
  | _ => False
/-- int[n][k] -/
def mnaF (f : Fm) (z N K : Nat) : Fm := fun a => if a = z then some (.inl (4, N, .inr (fun i => if i < N then some (z + 1 + i) else none))) else if z < a ∧ a ≤ z + N then some (.inl (1, K, .inl (fun _ => 0))) else f a
def xmna (nx : Xf) (ls : Ls) (st : List Value) (z : Zz) (f : Fm) (E : Ej) (R : Kr) : Prop := match st with
  | .int k :: .int n :: r => ¬ n < 0 ∧ ¬ k < 0 ∧ n.toNatClampNeg ≤ 4096 ∧ k.toNatClampNeg ≤ 4096 ∧ 1 + n.toNatClampNeg ≤ z.2.1 ∧ n.toNatClampNeg + n.toNatClampNeg * k.toNatClampNeg ≤ z.2.2 ∧ nx ls (.ref z.1 :: r) (z.1 + 1 + n.toNatClampNeg, z.2.1 - 1 - n.toNatClampNeg, z.2.2 - (n.toNatClampNeg + n.toNatClampNeg * k.toNatClampNeg)) (mnaF f z.1 n.toNatClampNeg k.toNatClampNeg) E R
  | _ => False
section EGr
variable {s0 : State} {D : va_G} {ids : Nat → ClassId} {l : Launch} {own : String} {cc : ByteArray} {nL : Nat} {ret : Option FieldType} {nm : String} {rm : Room} {K : Kr} {E : Ej} {pc : Nat} {k : Xf}
theorem sd_max (X : EnX s0 D ids l own cc nL ret nm rm K E) {index : Nat} (hd : decode cc pc = .ok (.invokestatic index, 3)) (hlink : Cond.methodLink own index Lib.Math.max.name ∈ bigW) (hfr : 1 ≤ rm.frames) (hlo : 21 ≤ rm.locals) (hk : Sd E K (pc + 3) k) : Sd E K pc (xmax k) := by
  obtain ⟨p, e, s, m, args, below, meth, c, ⟨hx, hb, hml, hown, hts⟩, hr, hlk, hnm, hS, hK, rfl⟩ := X
  intro ls st z f h H locs A hA hn hW hL h1 h2
  unfold xmax at h
  split at h
  · obtain ⟨hc, h⟩ := h
    rename_i r
    have hc2 : (r.map fun v => v.category).sum ≤ 8 := hc
    exact va_mmax hx hb (by rw [hml]; exact (hA.1.trans hn).symm) hown (hts _ hlink) (hts _ (by decide +kernel)) (hts (.initialized "java/lang/Math") (by decide +kernel)) (hts _ (by decide +kernel)) hfr (by omega) (by omega) (by omega) hd (hk ls _ z f h H locs A hA hn hW hL h1 h2)
  · exact absurd h id
theorem sd_min (X : EnX s0 D ids l own cc nL ret nm rm K E) {index : Nat} (hd : decode cc pc = .ok (.invokestatic index, 3)) (hlink : Cond.methodLink own index Lib.Math.min.name ∈ bigW) (hfr : 1 ≤ rm.frames) (hlo : 21 ≤ rm.locals) (hk : Sd E K (pc + 3) k) : Sd E K pc (xmin k) := by
  obtain ⟨p, e, s, m, args, below, meth, c, ⟨hx, hb, hml, hown, hts⟩, hr, hlk, hnm, hS, hK, rfl⟩ := X
  intro ls st z f h H locs A hA hn hW hL h1 h2
  unfold xmin at h
  split at h
  · obtain ⟨hc, h⟩ := h
    rename_i r
    have hc2 : (r.map fun v => v.category).sum ≤ 8 := hc
    exact va_mmin hx hb (by rw [hml]; exact (hA.1.trans hn).symm) hown (hts _ hlink) (hts _ (by decide +kernel)) (hts (.initialized "java/lang/Math") (by decide +kernel)) (hts _ (by decide +kernel)) hfr (by omega) (by omega) (by omega) hd (hk ls _ z f h H locs A hA hn hW hL h1 h2)
  · exact absurd h id
theorem ao_moved {ty : FieldType} {u U : State} (hvm : u.vm.Alike U.vm) (h : (Cond.arrayOver ty).before #[] u = true) : (Cond.arrayOver ty).before #[] U = true := by
  have h1 := Cond.arrayOver_setVmC (args := #[]) hvm ty
  have h2 : (Cond.arrayOver ty).before #[] (u.setVm U.vm) = (Cond.arrayOver ty).before #[] U := rfl
  rw [← h2, h1]
  exact h
theorem en_norm (X : EnX s0 D ids l own cc nL ret nm rm K E) {ls : Ls} {st : List Value} {z : Zz} {f f' : Fm} (h : ∀ a, f' a = f a ∨ ∃ (t n : Nat) (g g' : Nat → Int32), t < 5 ∧ f a = some (.inl (t, n, .inl g)) ∧ f' a = some (.inl (t, n, .inl g')) ∧ ∀ j, j < n → g j = g' j) (hE : E pc ls st z f') : E pc ls st z f := by
  obtain ⟨p, e, s, m, args, below, meth, c, ⟨hx, hb, hml, hown, hts⟩, hr, hlk, hnm, hS, hK, rfl⟩ := X
  intro H locs A hA hn hW hL h1 h2
  refine hE H locs A hA hn ⟨hW.1, hW.2.1, hW.2.2.1, fun a ce hce => ?_⟩ hL h1 h2
  rcases h a with q | ⟨t, n, g, g', ht, e1, e2, e3⟩
  · exact hW.2.2.2 a ce (q ▸ hce)
  · rw [e2] at hce
    cases hce
    obtain ⟨ho, hat⟩ := hW.mine e1 (by simp [ceOwn, ht])
    have h0 : H[a]? = some (arrV (ids t) n (fun j => .int (g j))) := hat
    unfold enC
    rw [if_pos (by simp [ceOwn, ht])]
    refine ⟨ho, ?_⟩
    show H[a]? = some (arrV (ids t) n (fun j => .int (g' j)))
    rw [h0]
    refine congrArg some ?_
    unfold arrV
    congr 1
    exact congrArg Array.ofFn (funext fun j => congrArg Value.int (e3 j.val j.isLt))
theorem ao_args {ty : FieldType} {U : State} {a : Array Value} (h : (Cond.arrayOver ty).before #[] U = true) : (Cond.arrayOver ty).before a U = true := h
def xpushq (k : Xf) (ls : Ls) (st : List Value) (z : Zz) (f : Fm) (E : Ej) (R : Kr) : Prop := k ls (.null :: st) z f E R ∧ ∀ t : Nat, k ls (.ref t :: st) z f E R
theorem sd_gstq (X : EnX s0 D ids l own cc nL ret nm rm K E) {index : Nat} {C n d : String} (hZ : va_Zq C n d (fun q => s0.heap.size ≤ q) s0 s0.heap) (hd : decode cc pc = .ok (.getstatic index, 3)) (hlink : Cond.fieldLink own index C n d ∈ bigW) (hk : Sd E K (pc + 3) k) : Sd E K pc (xpushq k) := by
  intro ls st z f h
  rcases hZ with hZ | ⟨t, hZ⟩
  · exact sd_gst X hZ hd hlink hk ls st z f h.1
  · exact sd_gst X hZ hd hlink hk ls st z f (h.2 t)
end EGr
