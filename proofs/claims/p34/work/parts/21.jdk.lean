/-! the JDK's members: a builder of letters -/
theorem vn_by {n : Nat} (h : n < 128) : vp_nar (tyA 0) (nI n) = nI n := by
  have q : ∀ m : Fin 128, vp_nar (tyA 0) (nI m.val) = nI m.val := by decide +kernel
  exact q ⟨n, h⟩
theorem i2b_n {n : Nat} (h : n < 128) : (nI n).toInt8.toInt32 = nI n := by
  have q : ∀ m : Fin 128, (nI m.val).toInt8.toInt32 = nI m.val := by decide +kernel
  exact q ⟨n, h⟩
theorem i2c_n {n : Nat} (h : n < 128) : ((nI n).toUInt32 % 65536).toInt32 = nI n := by
  have q : ∀ m : Fin 128, ((nI m.val).toUInt32 % 65536).toInt32 = nI m.val := by decide +kernel
  exact q ⟨n, h⟩
theorem nr_c {n : Nat} (h : n < 128) : (narrow .char (.int (nI n)) = .int (nI n)) = True := by
  have q : ∀ m : Fin 128, narrow .char (.int (nI m.val)) = .int (nI m.val) := by decide +kernel
  exact eq_true (q ⟨n, h⟩)
theorem and255 {n : Nat} (h : n < 128) : nI n &&& nI 255 = nI n := by
  have q : ∀ m : Fin 128, nI m.val &&& nI 255 = nI m.val := by decide +kernel
  exact q ⟨n, h⟩
theorem sr0 {n : Nat} (h : n < 128) : nI n >>> (nI 0 &&& 31) = nI n := by
  have q : ∀ m : Fin 128, nI m.val >>> (nI 0 &&& 31) = nI m.val := by decide +kernel
  exact q ⟨n, h⟩
theorem sl0 {n : Nat} (h : n < 128) : nI n <<< (nI 0 &&& 31) = nI n := by
  have q : ∀ m : Fin 128, nI m.val <<< (nI 0 &&& 31) = nI m.val := by decide +kernel
  exact q ⟨n, h⟩
theorem nI_sub {a b : Nat} (h : b ≤ a) : nI a - nI b = nI (a - b) := by
  have e : nI (a - b) + nI b = nI a := by
    rw [nI_add]
    exact congrArg nI (by omega)
  rw [← e, Int32.add_sub_cancel]
theorem one_n0 : ((1 : Int32) = nI 0) = False := eq_false (by decide +kernel)
theorem big_n : (2147483639 : Int32) = nI 2147483639 := by decide +kernel
theorem max_n : (2147483647 : Int32) = nI 2147483647 := by decide +kernel
theorem fits_by {n : Nat} (h : n < 128) : fits (tyA 0) (.int (nI n)) = true := by
  have q : ∀ m : Fin 128, fits (tyA 0) (.int (nI m.val)) = true := by decide +kernel
  exact q ⟨n, h⟩
theorem va_up_up9 {f : Fm} {x : Nat} {c c' : Option Ce} : va_up (va_up f x c) x c' = va_up f x c' := by
  funext q
  by_cases e : q = x
  · rw [e, va_up_self, va_up_self]
  · rw [up_fr e, up_fr e, up_fr e]
theorem nI_subL {a b : Nat} (ha : a < 1000) (hb : b < 1000) : (nI a - nI b ≤ nI 0) = (a ≤ b) := by
  by_cases q : b ≤ a
  · rw [nI_sub q, eq_iff_iff, nI_leI (by omega) (by omega)]
    omega
  · refine (eq_true ?_).trans (eq_true (by omega)).symm
    have e : nI a - nI b = -nI (b - a) := by rw [← nI_sub (by omega), Int32.neg_sub]
    rw [e]
    exact (sb_nle (a := b - a) (b := 0) (by omega) (by omega)).mpr (by omega)
/-- a builder at a, its letters at v; w: where the object that it belongs to ends; z: the heap's end; L: the letters -/
def isSBx (f : Fm) (a v w z : Nat) (L : List Nat) (cap lt : Nat) (b : Nat → Nat) : Prop := f a = some (.inr (0, [.ref v, .int (nI 0), .int (nI lt), .int (nI L.length)])) ∧ f v = some (.inl (0, cap, .inl (rw1 b))) ∧ (cap = 16 ∨ cap = 34 ∨ cap = 70) ∧ L.length ≤ cap ∧ lt < 2 ∧ v ≠ a ∧ (v = a + 1 ∨ w ≤ v) ∧ v < z ∧ a < w ∧ w ≤ z ∧ (∀ j, j < L.length → b j = L.getD j 0) ∧ ∀ j, b j < 128
def isSB (f : Fm) (a v w z : Nat) (L : List Nat) : Prop := ∃ (cap lt : Nat) (b : Nat → Nat), isSBx f a v w z L cap lt b
theorem isSB.fr {f f' : Fm} {a v w z z' : Nat} {L : List Nat} (h : isSB f a v w z L) (hz : z ≤ z') (h1 : f' a = f a) (h2 : f' v = f v) : isSB f' a v w z' L := by
  obtain ⟨cap, lt, b, i1, i2, i3, i4, i5, i6, i7, i8, i9, i10, i11, i12⟩ := h
  exact ⟨cap, lt, b, h1.trans i1, h2.trans i2, i3, i4, i5, i6, i7, by omega, i9, by omega, i11, i12⟩
abbrev Sp_J5_isLatin1_aae02 : Spt := fun as z f K => ∃ (a v w z0 : Nat) (L : List Nat), as = [.ref a] ∧ isSB f a v w z0 L ∧ K (some (.int (nI 1))) z f
def rm_J5_isLatin1_aae02 : Room := { frames := 0, cells := 0, slots := 0, locals := 0 }
def q_J5_isLatin1_aae02_18 (ls : Ls) (st : List Value) (z : Zz) (f : Fm) (E : Ej) (R : Kr) : Prop := xret .boolean ls st z f E R
def q_J5_isLatin1_aae02_17 (ls : Ls) (st : List Value) (z : Zz) (f : Fm) (E : Ej) (R : Kr) : Prop := xpush (.int (nI 0)) q_J5_isLatin1_aae02_18 ls st z f E R
def q_J5_isLatin1_aae02_13 (ls : Ls) (st : List Value) (z : Zz) (f : Fm) (E : Ej) (R : Kr) : Prop := xpush (.int (nI 1)) q_J5_isLatin1_aae02_18 ls st z f E R
def q_J5_isLatin1_aae02_10 (ls : Ls) (st : List Value) (z : Zz) (f : Fm) (E : Ej) (R : Kr) : Prop := xif (fun x => ¬ x = 0) q_J5_isLatin1_aae02_17 q_J5_isLatin1_aae02_13 ls st z f E R
def q_J5_isLatin1_aae02_7 (ls : Ls) (st : List Value) (z : Zz) (f : Fm) (E : Ej) (R : Kr) : Prop := xget 0 1 q_J5_isLatin1_aae02_10 ls st z f E R
def q_J5_isLatin1_aae02_6 (ls : Ls) (st : List Value) (z : Zz) (f : Fm) (E : Ej) (R : Kr) : Prop := xaload 0 q_J5_isLatin1_aae02_7 ls st z f E R
def q_J5_isLatin1_aae02_3 (ls : Ls) (st : List Value) (z : Zz) (f : Fm) (E : Ej) (R : Kr) : Prop := xif (fun x => x = 0) q_J5_isLatin1_aae02_17 q_J5_isLatin1_aae02_6 ls st z f E R
def q_J5_isLatin1_aae02_0 (ls : Ls) (st : List Value) (z : Zz) (f : Fm) (E : Ej) (R : Kr) : Prop := xpush (.int 1) q_J5_isLatin1_aae02_3 ls st z f E R
set_option maxRecDepth 100000 in
theorem t_J5_isLatin1_aae02 {s0 : State} {D : va_G} {ids : Nat → ClassId} {V : Nat → Nat} {l : Launch} {K : Kr} {E : Ej} (G : GG s0 D ids V) (X : EnX s0 D ids l RJ5 cJ5_isLatin1_aae02 1 (some .boolean) "isLatin1" rm_J5_isLatin1_aae02 K E) : Sd E K 0 q_J5_isLatin1_aae02_0 := by
  have h18 : Sd E K 18 q_J5_isLatin1_aae02_18 := sd_ret X (by decide +kernel : decode cJ5_isLatin1_aae02 18 = .ok (.ireturn, 1))
  have h17 : Sd E K 17 q_J5_isLatin1_aae02_17 := sd_iconst X (by decide +kernel : decode cJ5_isLatin1_aae02 17 = .ok (.iconst 0, 1)) (by decide +kernel) h18
  have h14 : Sd E K 14 q_J5_isLatin1_aae02_18 := sd_goto X (by decide +kernel : decode cJ5_isLatin1_aae02 14 = .ok (.goto 4, 3)) (by decide) h18
  have h13 : Sd E K 13 q_J5_isLatin1_aae02_13 := sd_iconst X (by decide +kernel : decode cJ5_isLatin1_aae02 13 = .ok (.iconst 1, 1)) (by decide +kernel) h14
  have h10 : Sd E K 10 q_J5_isLatin1_aae02_10 := sd_if_ne X (by decide +kernel : decode cJ5_isLatin1_aae02 10 = .ok (.ifCond .ne 7, 3)) (by decide) h17 h13
  have h7 : Sd E K 7 q_J5_isLatin1_aae02_7 := sd_get X (by decide +kernel : decode cJ5_isLatin1_aae02 7 = .ok (.getfield 22, 3)) ok_J4 (Nat.le_of_ble_eq_true rfl) wd_329 h10
  have h6 : Sd E K 6 q_J5_isLatin1_aae02_6 := sd_aload_n X (by decide +kernel : decode cJ5_isLatin1_aae02 6 = .ok (.aload_n 0, 1)) rfl h7
  have h3 : Sd E K 3 q_J5_isLatin1_aae02_3 := sd_if_eq X (by decide +kernel : decode cJ5_isLatin1_aae02 3 = .ok (.ifCond .eq 14, 3)) (by decide) h17 h6
  have h0 : Sd E K 0 q_J5_isLatin1_aae02_0 := sd_gst X G.z0 (by decide +kernel : decode cJ5_isLatin1_aae02 0 = .ok (.getstatic 18, 3)) wd_319 h3
  exact h0
set_option maxHeartbeats 4000000 in
set_option maxRecDepth 100000 in
theorem ct_J5_isLatin1_aae02 {s0 : State} {D : va_G} {ids : Nat → ClassId} {V : Nat → Nat} {l : Launch} (G : GG s0 D ids V) : CT s0 D ids l yJ5_isLatin1_aae02 cJ5_isLatin1_aae02 1 (some .boolean) rm_J5_isLatin1_aae02 Sp_J5_isLatin1_aae02 := CT.of (by decide +kernel) G.k (by
  rintro as z f K E ⟨a, v, w, z0, L, rfl, ⟨cap, lt, b, i1, i2, i3, i4, i5, i6, i7, i8, i9, i10, i11, i12⟩, hK⟩ X
  refine ⟨Nat.le_of_ble_eq_true rfl, by simp [Value.category], t_J5_isLatin1_aae02 G X _ _ _ _ ?_⟩
  simp (disch := omega) only [q_J5_isLatin1_aae02_0, q_J5_isLatin1_aae02_3, q_J5_isLatin1_aae02_6, q_J5_isLatin1_aae02_7, q_J5_isLatin1_aae02_10, q_J5_isLatin1_aae02_13, q_J5_isLatin1_aae02_17, q_J5_isLatin1_aae02_18, xpush, xiload, xaload, xlload, xfload, xdload, lkill, xistore, xastore, xfstore, xlstore, xdstore, xiinc, xbin, xdiv, xun, xlbin, xi2l, xi2f, xi2d, xlcmp, xfcmp, xdcmp, xfdiv, xddiv, c1, xdup, xpop, xdup_x1, xdup2, xif, xicmp, xtab, xtabL, xget, xput, xald, xast, xalen, xnew, xnewa, c1s, recvOk, xcall, kont, xret, xlret, xfret, xdret, xaret, xvret, xs, xnewq, xastq, xcopy, xcopyF, xobj, xmax, xmin, xdead, xpushq, xmna, ls0, List.map_cons, List.map_nil, List.length_cons, List.length_nil, List.replicate, List.append_nil, List.cons_append, List.nil_append, List.getElem?_cons_zero, List.getElem?_cons_succ, List.getElem?_nil, List.set_cons_zero, List.set_cons_succ, List.take_succ_cons, List.take_zero, List.drop_succ_cons, List.drop_zero, List.reverse_cons, List.reverse_nil, List.sum_cons, List.sum_nil, Value.category, Option.toList_some, Option.toList_none, Nat.reduceAdd, Nat.reduceSub, Nat.reduceLT, Nat.reduceLeDiff, Nat.zero_add, Nat.le_refl, true_and, and_true, Nat.sub_zero, Nat.zero_lt_succ, Nat.zero_le, Nat.not_lt_zero, Nat.reduceEqDiff, Nat.one_ne_zero, nI_toInt, Int.reduceEq, Int.reduceAdd, Int.reduceLT, Int.reduceLE, Int.cast_ofNat_Int, reduceIte, or_false, false_or, eq_self, or_true, true_or, or_self, nI_clamp, vp_in_nI, nI_ltI, nI_leI, nI_eq, nI_add, nI_zero9, nI_nlt0, nI_le0, nI_lt0, arG, va_rf, not_false_eq_true, not_true_eq_false, false_implies, true_implies, implies_true, ne_eq, okv_int, okv_z0, okv_z1, okv_zN, okv_ref, okv_arr, okv_null, vn_z0, vn_z1, vn_zN, nr_int, nr_z, va_up_self, up_fr, rw1_j, rw1_up, i1, one_n0]
  exact hK)
abbrev Sp_J5_length_8abf5 : Spt := fun as z f K => ∃ (a v w z0 : Nat) (L : List Nat), as = [.ref a] ∧ isSB f a v w z0 L ∧ K (some (.int (nI L.length))) z f
def rm_J5_length_8abf5 : Room := { frames := 0, cells := 0, slots := 0, locals := 0 }
def q_J5_length_8abf5_4 (ls : Ls) (st : List Value) (z : Zz) (f : Fm) (E : Ej) (R : Kr) : Prop := xret .int ls st z f E R
def q_J5_length_8abf5_1 (ls : Ls) (st : List Value) (z : Zz) (f : Fm) (E : Ej) (R : Kr) : Prop := xget 0 3 q_J5_length_8abf5_4 ls st z f E R
def q_J5_length_8abf5_0 (ls : Ls) (st : List Value) (z : Zz) (f : Fm) (E : Ej) (R : Kr) : Prop := xaload 0 q_J5_length_8abf5_1 ls st z f E R
set_option maxRecDepth 100000 in
theorem t_J5_length_8abf5 {s0 : State} {D : va_G} {ids : Nat → ClassId} {V : Nat → Nat} {l : Launch} {K : Kr} {E : Ej} (G : GG s0 D ids V) (X : EnX s0 D ids l RJ5 cJ5_length_8abf5 1 (some .int) "length" rm_J5_length_8abf5 K E) : Sd E K 0 q_J5_length_8abf5_0 := by
  have h4 : Sd E K 4 q_J5_length_8abf5_4 := sd_ret X (by decide +kernel : decode cJ5_length_8abf5 4 = .ok (.ireturn, 1))
  have h1 : Sd E K 1 q_J5_length_8abf5_1 := sd_get X (by decide +kernel : decode cJ5_length_8abf5 1 = .ok (.getfield 79, 3)) ok_J4 (Nat.le_of_ble_eq_true rfl) wd_331 h4
  have h0 : Sd E K 0 q_J5_length_8abf5_0 := sd_aload_n X (by decide +kernel : decode cJ5_length_8abf5 0 = .ok (.aload_n 0, 1)) rfl h1
  exact h0
set_option maxHeartbeats 4000000 in
set_option maxRecDepth 100000 in
theorem ct_J5_length_8abf5 {s0 : State} {D : va_G} {ids : Nat → ClassId} {V : Nat → Nat} {l : Launch} (G : GG s0 D ids V) : CT s0 D ids l yJ5_length_8abf5 cJ5_length_8abf5 1 (some .int) rm_J5_length_8abf5 Sp_J5_length_8abf5 := CT.of (by decide +kernel) G.k (by
  rintro as z f K E ⟨a, v, w, z0, L, rfl, ⟨cap, lt, b, i1, i2, i3, i4, i5, i6, i7, i8, i9, i10, i11, i12⟩, hK⟩ X
  refine ⟨Nat.le_of_ble_eq_true rfl, by simp [Value.category], t_J5_length_8abf5 G X _ _ _ _ ?_⟩
  simp (disch := omega) only [q_J5_length_8abf5_0, q_J5_length_8abf5_1, q_J5_length_8abf5_4, xpush, xiload, xaload, xlload, xfload, xdload, lkill, xistore, xastore, xfstore, xlstore, xdstore, xiinc, xbin, xdiv, xun, xlbin, xi2l, xi2f, xi2d, xlcmp, xfcmp, xdcmp, xfdiv, xddiv, c1, xdup, xpop, xdup_x1, xdup2, xif, xicmp, xtab, xtabL, xget, xput, xald, xast, xalen, xnew, xnewa, c1s, recvOk, xcall, kont, xret, xlret, xfret, xdret, xaret, xvret, xs, xnewq, xastq, xcopy, xcopyF, xobj, xmax, xmin, xdead, xpushq, xmna, ls0, List.map_cons, List.map_nil, List.length_cons, List.length_nil, List.replicate, List.append_nil, List.cons_append, List.nil_append, List.getElem?_cons_zero, List.getElem?_cons_succ, List.getElem?_nil, List.set_cons_zero, List.set_cons_succ, List.take_succ_cons, List.take_zero, List.drop_succ_cons, List.drop_zero, List.reverse_cons, List.reverse_nil, List.sum_cons, List.sum_nil, Value.category, Option.toList_some, Option.toList_none, Nat.reduceAdd, Nat.reduceSub, Nat.reduceLT, Nat.reduceLeDiff, Nat.zero_add, Nat.le_refl, true_and, and_true, Nat.sub_zero, Nat.zero_lt_succ, Nat.zero_le, Nat.not_lt_zero, Nat.reduceEqDiff, Nat.one_ne_zero, nI_toInt, Int.reduceEq, Int.reduceAdd, Int.reduceLT, Int.reduceLE, Int.cast_ofNat_Int, reduceIte, or_false, false_or, eq_self, or_true, true_or, or_self, nI_clamp, vp_in_nI, nI_ltI, nI_leI, nI_eq, nI_add, nI_zero9, nI_nlt0, nI_le0, nI_lt0, arG, va_rf, not_false_eq_true, not_true_eq_false, false_implies, true_implies, implies_true, ne_eq, okv_int, okv_z0, okv_z1, okv_zN, okv_ref, okv_arr, okv_null, vn_z0, vn_z1, vn_zN, nr_int, nr_z, va_up_self, up_fr, rw1_j, rw1_up, i1]
  exact hK)
abbrev Sp_J4_length_8abf5 : Spt := fun as z f K => ∃ (a v w z0 : Nat) (L : List Nat), as = [.ref a] ∧ isSB f a v w z0 L ∧ K (some (.int (nI L.length))) z f
def rm_J4_length_8abf5 : Room := { frames := 1, cells := 0, slots := 0, locals := 20 }
def q_J4_length_8abf5_4 (ls : Ls) (st : List Value) (z : Zz) (f : Fm) (E : Ej) (R : Kr) : Prop := xret .int ls st z f E R
def q_J4_length_8abf5_1 (ls : Ls) (st : List Value) (z : Zz) (f : Fm) (E : Ej) (R : Kr) : Prop := xcall 1 1 Sp_J5_length_8abf5 0 0 q_J4_length_8abf5_4 ls st z f E R
def q_J4_length_8abf5_0 (ls : Ls) (st : List Value) (z : Zz) (f : Fm) (E : Ej) (R : Kr) : Prop := xaload 0 q_J4_length_8abf5_1 ls st z f E R
set_option maxRecDepth 100000 in
theorem t_J4_length_8abf5 {s0 : State} {D : va_G} {ids : Nat → ClassId} {V : Nat → Nat} {l : Launch} {K : Kr} {E : Ej} (G : GG s0 D ids V) (X : EnX s0 D ids l RJ4 cJ4_length_8abf5 1 (some .int) "length" rm_J4_length_8abf5 K E) : Sd E K 0 q_J4_length_8abf5_0 := by
  have h4 : Sd E K 4 q_J4_length_8abf5_4 := sd_ret X (by decide +kernel : decode cJ4_length_8abf5 4 = .ok (.ireturn, 1))
  have h1 : Sd E K 1 q_J4_length_8abf5_1 := sd_callSU (n := 0) (ci := 0) X (ct_J5_length_8abf5 G) (by decide +kernel : decode cJ4_length_8abf5 1 = .ok (.invokespecial 343, 3)) wd_658 wd_656 wd_1131 wd_340 wd_657 wd_35 (by decide +kernel) ⟨by decide, rfl⟩ ⟨Nat.le_of_ble_eq_true rfl, Nat.le_of_ble_eq_true rfl⟩ h4
  have h0 : Sd E K 0 q_J4_length_8abf5_0 := sd_aload_n X (by decide +kernel : decode cJ4_length_8abf5 0 = .ok (.aload_n 0, 1)) rfl h1
  exact h0
set_option maxHeartbeats 4000000 in
set_option maxRecDepth 100000 in
theorem ct_J4_length_8abf5 {s0 : State} {D : va_G} {ids : Nat → ClassId} {V : Nat → Nat} {l : Launch} (G : GG s0 D ids V) : CT s0 D ids l yJ4_length_8abf5 cJ4_length_8abf5 1 (some .int) rm_J4_length_8abf5 Sp_J4_length_8abf5 := CT.of (by decide +kernel) G.k (by
  rintro as z f K E ⟨a, v, w, z0, L, rfl, hB, hK⟩ X
  refine ⟨Nat.le_of_ble_eq_true rfl, by simp [Value.category], t_J4_length_8abf5 G X _ _ _ _ ?_⟩
  obtain ⟨cap, lt, b, i1, -⟩ := id hB
  simp (disch := omega) only [q_J4_length_8abf5_0, q_J4_length_8abf5_1, q_J4_length_8abf5_4, xpush, xiload, xaload, xlload, xfload, xdload, lkill, xistore, xastore, xfstore, xlstore, xdstore, xiinc, xbin, xdiv, xun, xlbin, xi2l, xi2f, xi2d, xlcmp, xfcmp, xdcmp, xfdiv, xddiv, c1, xdup, xpop, xdup_x1, xdup2, xif, xicmp, xtab, xtabL, xget, xput, xald, xast, xalen, xnew, xnewa, c1s, recvOk, xcall, kont, xret, xlret, xfret, xdret, xaret, xvret, xs, xnewq, xastq, xcopy, xcopyF, xobj, xmax, xmin, xdead, xpushq, xmna, ls0, List.map_cons, List.map_nil, List.length_cons, List.length_nil, List.replicate, List.append_nil, List.cons_append, List.nil_append, List.getElem?_cons_zero, List.getElem?_cons_succ, List.getElem?_nil, List.set_cons_zero, List.set_cons_succ, List.take_succ_cons, List.take_zero, List.drop_succ_cons, List.drop_zero, List.reverse_cons, List.reverse_nil, List.sum_cons, List.sum_nil, Value.category, Option.toList_some, Option.toList_none, Nat.reduceAdd, Nat.reduceSub, Nat.reduceLT, Nat.reduceLeDiff, Nat.zero_add, Nat.le_refl, true_and, and_true, Nat.sub_zero, Nat.zero_lt_succ, Nat.zero_le, Nat.not_lt_zero, Nat.reduceEqDiff, Nat.one_ne_zero, nI_toInt, Int.reduceEq, Int.reduceAdd, Int.reduceLT, Int.reduceLE, Int.cast_ofNat_Int, reduceIte, or_false, false_or, eq_self, or_true, true_or, or_self, nI_clamp, vp_in_nI, nI_ltI, nI_leI, nI_eq, nI_add, nI_zero9, nI_nlt0, nI_le0, nI_lt0, arG, va_rf, not_false_eq_true, not_true_eq_false, false_implies, true_implies, implies_true, ne_eq, okv_int, okv_z0, okv_z1, okv_zN, okv_ref, okv_arr, okv_null, vn_z0, vn_z1, vn_zN, nr_int, nr_z, va_up_self, up_fr, rw1_j, rw1_up, i1]
  refine ⟨a, v, w, z0, L, rfl, hB, ?_⟩
  simp (disch := omega) only [q_J4_length_8abf5_0, q_J4_length_8abf5_1, q_J4_length_8abf5_4, xpush, xiload, xaload, xlload, xfload, xdload, lkill, xistore, xastore, xfstore, xlstore, xdstore, xiinc, xbin, xdiv, xun, xlbin, xi2l, xi2f, xi2d, xlcmp, xfcmp, xdcmp, xfdiv, xddiv, c1, xdup, xpop, xdup_x1, xdup2, xif, xicmp, xtab, xtabL, xget, xput, xald, xast, xalen, xnew, xnewa, c1s, recvOk, xcall, kont, xret, xlret, xfret, xdret, xaret, xvret, xs, xnewq, xastq, xcopy, xcopyF, xobj, xmax, xmin, xdead, xpushq, xmna, ls0, List.map_cons, List.map_nil, List.length_cons, List.length_nil, List.replicate, List.append_nil, List.cons_append, List.nil_append, List.getElem?_cons_zero, List.getElem?_cons_succ, List.getElem?_nil, List.set_cons_zero, List.set_cons_succ, List.take_succ_cons, List.take_zero, List.drop_succ_cons, List.drop_zero, List.reverse_cons, List.reverse_nil, List.sum_cons, List.sum_nil, Value.category, Option.toList_some, Option.toList_none, Nat.reduceAdd, Nat.reduceSub, Nat.reduceLT, Nat.reduceLeDiff, Nat.zero_add, Nat.le_refl, true_and, and_true, Nat.sub_zero, Nat.zero_lt_succ, Nat.zero_le, Nat.not_lt_zero, Nat.reduceEqDiff, Nat.one_ne_zero, nI_toInt, Int.reduceEq, Int.reduceAdd, Int.reduceLT, Int.reduceLE, Int.cast_ofNat_Int, reduceIte, or_false, false_or, eq_self, or_true, true_or, or_self, nI_clamp, vp_in_nI, nI_ltI, nI_leI, nI_eq, nI_add, nI_zero9, nI_nlt0, nI_le0, nI_lt0, arG, va_rf, not_false_eq_true, not_true_eq_false, false_implies, true_implies, implies_true, ne_eq, okv_int, okv_z0, okv_z1, okv_zN, okv_ref, okv_arr, okv_null, vn_z0, vn_z1, vn_zN, nr_int, nr_z, va_up_self, up_fr, rw1_j, rw1_up]
  exact hK)
abbrev Sp_J1_canEncode_fc78d : Spt := fun as z f K => ∃ (n : Nat), as = [.int (nI n)] ∧ n < 256 ∧ K (some (.int (nI 1))) z f
def rm_J1_canEncode_fc78d : Room := { frames := 0, cells := 0, slots := 0, locals := 0 }
def q_J1_canEncode_fc78d_12 (ls : Ls) (st : List Value) (z : Zz) (f : Fm) (E : Ej) (R : Kr) : Prop := xret .boolean ls st z f E R
def q_J1_canEncode_fc78d_11 (ls : Ls) (st : List Value) (z : Zz) (f : Fm) (E : Ej) (R : Kr) : Prop := xpush (.int (nI 0)) q_J1_canEncode_fc78d_12 ls st z f E R
def q_J1_canEncode_fc78d_7 (ls : Ls) (st : List Value) (z : Zz) (f : Fm) (E : Ej) (R : Kr) : Prop := xpush (.int (nI 1)) q_J1_canEncode_fc78d_12 ls st z f E R
def q_J1_canEncode_fc78d_4 (ls : Ls) (st : List Value) (z : Zz) (f : Fm) (E : Ej) (R : Kr) : Prop := xicmp (fun x y => y < x) q_J1_canEncode_fc78d_11 q_J1_canEncode_fc78d_7 ls st z f E R
def q_J1_canEncode_fc78d_1 (ls : Ls) (st : List Value) (z : Zz) (f : Fm) (E : Ej) (R : Kr) : Prop := xpush (.int (nI 255)) q_J1_canEncode_fc78d_4 ls st z f E R
def q_J1_canEncode_fc78d_0 (ls : Ls) (st : List Value) (z : Zz) (f : Fm) (E : Ej) (R : Kr) : Prop := xiload 0 q_J1_canEncode_fc78d_1 ls st z f E R
set_option maxRecDepth 100000 in
theorem t_J1_canEncode_fc78d {s0 : State} {D : va_G} {ids : Nat → ClassId} {V : Nat → Nat} {l : Launch} {K : Kr} {E : Ej} (G : GG s0 D ids V) (X : EnX s0 D ids l RJ1 cJ1_canEncode_fc78d 1 (some .boolean) "canEncode" rm_J1_canEncode_fc78d K E) : Sd E K 0 q_J1_canEncode_fc78d_0 := by
  have h12 : Sd E K 12 q_J1_canEncode_fc78d_12 := sd_ret X (by decide +kernel : decode cJ1_canEncode_fc78d 12 = .ok (.ireturn, 1))
  have h11 : Sd E K 11 q_J1_canEncode_fc78d_11 := sd_iconst X (by decide +kernel : decode cJ1_canEncode_fc78d 11 = .ok (.iconst 0, 1)) (by decide +kernel) h12
  have h8 : Sd E K 8 q_J1_canEncode_fc78d_12 := sd_goto X (by decide +kernel : decode cJ1_canEncode_fc78d 8 = .ok (.goto 4, 3)) (by decide) h12
  have h7 : Sd E K 7 q_J1_canEncode_fc78d_7 := sd_iconst X (by decide +kernel : decode cJ1_canEncode_fc78d 7 = .ok (.iconst 1, 1)) (by decide +kernel) h8
  have h4 : Sd E K 4 q_J1_canEncode_fc78d_4 := sd_icmp_gt X (by decide +kernel : decode cJ1_canEncode_fc78d 4 = .ok (.if_icmp .gt 7, 3)) (by decide) h11 h7
  have h1 : Sd E K 1 q_J1_canEncode_fc78d_1 := sd_sipush X (by decide +kernel : decode cJ1_canEncode_fc78d 1 = .ok (.sipush 255, 3)) (by decide +kernel) h4
  have h0 : Sd E K 0 q_J1_canEncode_fc78d_0 := sd_iload_n X (by decide +kernel : decode cJ1_canEncode_fc78d 0 = .ok (.iload_n 0, 1)) rfl h1
  exact h0
set_option maxHeartbeats 4000000 in
set_option maxRecDepth 100000 in
theorem ct_J1_canEncode_fc78d {s0 : State} {D : va_G} {ids : Nat → ClassId} {V : Nat → Nat} {l : Launch} (G : GG s0 D ids V) : CT s0 D ids l yJ1_canEncode_fc78d cJ1_canEncode_fc78d 1 (some .boolean) rm_J1_canEncode_fc78d Sp_J1_canEncode_fc78d := CT.of (by decide +kernel) G.k (by
  rintro as z f K E ⟨n, rfl, hn, hK⟩ X
  refine ⟨Nat.le_of_ble_eq_true rfl, by simp [Value.category], t_J1_canEncode_fc78d G X _ _ _ _ ?_⟩
  simp (disch := omega) only [q_J1_canEncode_fc78d_0, q_J1_canEncode_fc78d_1, q_J1_canEncode_fc78d_4, q_J1_canEncode_fc78d_7, q_J1_canEncode_fc78d_11, q_J1_canEncode_fc78d_12, xpush, xiload, xaload, xlload, xfload, xdload, lkill, xistore, xastore, xfstore, xlstore, xdstore, xiinc, xbin, xdiv, xun, xlbin, xi2l, xi2f, xi2d, xlcmp, xfcmp, xdcmp, xfdiv, xddiv, c1, xdup, xpop, xdup_x1, xdup2, xif, xicmp, xtab, xtabL, xget, xput, xald, xast, xalen, xnew, xnewa, c1s, recvOk, xcall, kont, xret, xlret, xfret, xdret, xaret, xvret, xs, xnewq, xastq, xcopy, xcopyF, xobj, xmax, xmin, xdead, xpushq, xmna, ls0, List.map_cons, List.map_nil, List.length_cons, List.length_nil, List.replicate, List.append_nil, List.cons_append, List.nil_append, List.getElem?_cons_zero, List.getElem?_cons_succ, List.getElem?_nil, List.set_cons_zero, List.set_cons_succ, List.take_succ_cons, List.take_zero, List.drop_succ_cons, List.drop_zero, List.reverse_cons, List.reverse_nil, List.sum_cons, List.sum_nil, Value.category, Option.toList_some, Option.toList_none, Nat.reduceAdd, Nat.reduceSub, Nat.reduceLT, Nat.reduceLeDiff, Nat.zero_add, Nat.le_refl, true_and, and_true, Nat.sub_zero, Nat.zero_lt_succ, Nat.zero_le, Nat.not_lt_zero, Nat.reduceEqDiff, Nat.one_ne_zero, nI_toInt, Int.reduceEq, Int.reduceAdd, Int.reduceLT, Int.reduceLE, Int.cast_ofNat_Int, reduceIte, or_false, false_or, eq_self, or_true, true_or, or_self, nI_clamp, vp_in_nI, nI_ltI, nI_leI, nI_eq, nI_add, nI_zero9, nI_nlt0, nI_le0, nI_lt0, arG, va_rf, not_false_eq_true, not_true_eq_false, false_implies, true_implies, implies_true, ne_eq, okv_int, okv_z0, okv_z1, okv_zN, okv_ref, okv_arr, okv_null, vn_z0, vn_z1, vn_zN, nr_int, nr_z, va_up_self, up_fr, rw1_j, rw1_up]
  exact ⟨fun q => absurd q (by omega), fun _ => hK⟩)
abbrev Sp_J8_newLength_cabcc : Spt := fun as z f K => ∃ (o m p : Nat), as = [.int (nI o), .int (nI m), .int (nI p)] ∧ m < p ∧ o < 1000 ∧ 0 < p ∧ p < 1000 ∧ K (some (.int (nI (o + p)))) z f
def rm_J8_newLength_cabcc : Room := { frames := 1, cells := 0, slots := 0, locals := 21 }
def q_J8_newLength_cabcc_20 (ls : Ls) (st : List Value) (z : Zz) (f : Fm) (E : Ej) (R : Kr) : Prop := xret .int ls st z f E R
def q_J8_newLength_cabcc_19 (ls : Ls) (st : List Value) (z : Zz) (f : Fm) (E : Ej) (R : Kr) : Prop := xiload 3 q_J8_newLength_cabcc_20 ls st z f E R
def q_J8_newLength_cabcc_16 (ls : Ls) (st : List Value) (z : Zz) (f : Fm) (E : Ej) (R : Kr) : Prop := xicmp (fun x y => y < x) (xdead) q_J8_newLength_cabcc_19 ls st z f E R
def q_J8_newLength_cabcc_14 (ls : Ls) (st : List Value) (z : Zz) (f : Fm) (E : Ej) (R : Kr) : Prop := xpush (.int 2147483639) q_J8_newLength_cabcc_16 ls st z f E R
def q_J8_newLength_cabcc_13 (ls : Ls) (st : List Value) (z : Zz) (f : Fm) (E : Ej) (R : Kr) : Prop := xiload 3 q_J8_newLength_cabcc_14 ls st z f E R
def q_J8_newLength_cabcc_10 (ls : Ls) (st : List Value) (z : Zz) (f : Fm) (E : Ej) (R : Kr) : Prop := xicmp (fun x y => y ≤ x) (xdead) q_J8_newLength_cabcc_13 ls st z f E R
def q_J8_newLength_cabcc_9 (ls : Ls) (st : List Value) (z : Zz) (f : Fm) (E : Ej) (R : Kr) : Prop := xiload 3 q_J8_newLength_cabcc_10 ls st z f E R
def q_J8_newLength_cabcc_8 (ls : Ls) (st : List Value) (z : Zz) (f : Fm) (E : Ej) (R : Kr) : Prop := xpush (.int (nI 0)) q_J8_newLength_cabcc_9 ls st z f E R
def q_J8_newLength_cabcc_7 (ls : Ls) (st : List Value) (z : Zz) (f : Fm) (E : Ej) (R : Kr) : Prop := xistore 3 q_J8_newLength_cabcc_8 ls st z f E R
def q_J8_newLength_cabcc_6 (ls : Ls) (st : List Value) (z : Zz) (f : Fm) (E : Ej) (R : Kr) : Prop := xbin (fun x y => x + y) q_J8_newLength_cabcc_7 ls st z f E R
def q_J8_newLength_cabcc_3 (ls : Ls) (st : List Value) (z : Zz) (f : Fm) (E : Ej) (R : Kr) : Prop := xmax q_J8_newLength_cabcc_6 ls st z f E R
def q_J8_newLength_cabcc_2 (ls : Ls) (st : List Value) (z : Zz) (f : Fm) (E : Ej) (R : Kr) : Prop := xiload 2 q_J8_newLength_cabcc_3 ls st z f E R
def q_J8_newLength_cabcc_1 (ls : Ls) (st : List Value) (z : Zz) (f : Fm) (E : Ej) (R : Kr) : Prop := xiload 1 q_J8_newLength_cabcc_2 ls st z f E R
def q_J8_newLength_cabcc_0 (ls : Ls) (st : List Value) (z : Zz) (f : Fm) (E : Ej) (R : Kr) : Prop := xiload 0 q_J8_newLength_cabcc_1 ls st z f E R
set_option maxRecDepth 100000 in
theorem t_J8_newLength_cabcc {s0 : State} {D : va_G} {ids : Nat → ClassId} {V : Nat → Nat} {l : Launch} {K : Kr} {E : Ej} (G : GG s0 D ids V) (X : EnX s0 D ids l RJ8 cJ8_newLength_cabcc 4 (some .int) "newLength" rm_J8_newLength_cabcc K E) : Sd E K 0 q_J8_newLength_cabcc_0 := by
  have h20 : Sd E K 20 q_J8_newLength_cabcc_20 := sd_ret X (by decide +kernel : decode cJ8_newLength_cabcc 20 = .ok (.ireturn, 1))
  have h19 : Sd E K 19 q_J8_newLength_cabcc_19 := sd_iload_n X (by decide +kernel : decode cJ8_newLength_cabcc 19 = .ok (.iload_n 3, 1)) rfl h20
  have h16 : Sd E K 16 q_J8_newLength_cabcc_16 := sd_icmp_gt X (by decide +kernel : decode cJ8_newLength_cabcc 16 = .ok (.if_icmp .gt 5, 3)) (by decide) (sd_dead 21) h19
  have h14 : Sd E K 14 q_J8_newLength_cabcc_14 := sd_ldc X (by decide +kernel : decode cJ8_newLength_cabcc 14 = .ok (.ldc 200, 2)) wd_763 h16
  have h13 : Sd E K 13 q_J8_newLength_cabcc_13 := sd_iload_n X (by decide +kernel : decode cJ8_newLength_cabcc 13 = .ok (.iload_n 3, 1)) rfl h14
  have h10 : Sd E K 10 q_J8_newLength_cabcc_10 := sd_icmp_ge X (by decide +kernel : decode cJ8_newLength_cabcc 10 = .ok (.if_icmp .ge 11, 3)) (by decide) (sd_dead 21) h13
  have h9 : Sd E K 9 q_J8_newLength_cabcc_9 := sd_iload_n X (by decide +kernel : decode cJ8_newLength_cabcc 9 = .ok (.iload_n 3, 1)) rfl h10
  have h8 : Sd E K 8 q_J8_newLength_cabcc_8 := sd_iconst X (by decide +kernel : decode cJ8_newLength_cabcc 8 = .ok (.iconst 0, 1)) (by decide +kernel) h9
  have h7 : Sd E K 7 q_J8_newLength_cabcc_7 := sd_istore_n X (by decide +kernel : decode cJ8_newLength_cabcc 7 = .ok (.istore_n 3, 1)) rfl h8
  have h6 : Sd E K 6 q_J8_newLength_cabcc_6 := sd_iadd X (by decide +kernel : decode cJ8_newLength_cabcc 6 = .ok (.iadd, 1)) h7
  have h3 : Sd E K 3 q_J8_newLength_cabcc_3 := sd_max X (by decide +kernel : decode cJ8_newLength_cabcc 3 = .ok (.invokestatic 194, 3)) wd_760 (Nat.le_of_ble_eq_true rfl) (Nat.le_of_ble_eq_true rfl) h6
  have h2 : Sd E K 2 q_J8_newLength_cabcc_2 := sd_iload_n X (by decide +kernel : decode cJ8_newLength_cabcc 2 = .ok (.iload_n 2, 1)) rfl h3
  have h1 : Sd E K 1 q_J8_newLength_cabcc_1 := sd_iload_n X (by decide +kernel : decode cJ8_newLength_cabcc 1 = .ok (.iload_n 1, 1)) rfl h2
  have h0 : Sd E K 0 q_J8_newLength_cabcc_0 := sd_iload_n X (by decide +kernel : decode cJ8_newLength_cabcc 0 = .ok (.iload_n 0, 1)) rfl h1
  exact h0
set_option maxHeartbeats 4000000 in
set_option maxRecDepth 100000 in
theorem ct_J8_newLength_cabcc {s0 : State} {D : va_G} {ids : Nat → ClassId} {V : Nat → Nat} {l : Launch} (G : GG s0 D ids V) : CT s0 D ids l yJ8_newLength_cabcc cJ8_newLength_cabcc 4 (some .int) rm_J8_newLength_cabcc Sp_J8_newLength_cabcc := CT.of (by decide +kernel) G.k (by
  rintro as z f K E ⟨o, m, p, rfl, hm, ho, hp0, hp, hK⟩ X
  refine ⟨Nat.le_of_ble_eq_true rfl, by simp [Value.category], t_J8_newLength_cabcc G X _ _ _ _ ?_⟩
  simp (disch := omega) only [q_J8_newLength_cabcc_0, q_J8_newLength_cabcc_1, q_J8_newLength_cabcc_2, q_J8_newLength_cabcc_3, q_J8_newLength_cabcc_6, q_J8_newLength_cabcc_7, q_J8_newLength_cabcc_8, q_J8_newLength_cabcc_9, q_J8_newLength_cabcc_10, q_J8_newLength_cabcc_13, q_J8_newLength_cabcc_14, q_J8_newLength_cabcc_16, q_J8_newLength_cabcc_19, q_J8_newLength_cabcc_20, xpush, xiload, xaload, xlload, xfload, xdload, lkill, xistore, xastore, xfstore, xlstore, xdstore, xiinc, xbin, xdiv, xun, xlbin, xi2l, xi2f, xi2d, xlcmp, xfcmp, xdcmp, xfdiv, xddiv, c1, xdup, xpop, xdup_x1, xdup2, xif, xicmp, xtab, xtabL, xget, xput, xald, xast, xalen, xnew, xnewa, c1s, recvOk, xcall, kont, xret, xlret, xfret, xdret, xaret, xvret, xs, xnewq, xastq, xcopy, xcopyF, xobj, xmax, xmin, xdead, xpushq, xmna, ls0, List.map_cons, List.map_nil, List.length_cons, List.length_nil, List.replicate, List.append_nil, List.cons_append, List.nil_append, List.getElem?_cons_zero, List.getElem?_cons_succ, List.getElem?_nil, List.set_cons_zero, List.set_cons_succ, List.take_succ_cons, List.take_zero, List.drop_succ_cons, List.drop_zero, List.reverse_cons, List.reverse_nil, List.sum_cons, List.sum_nil, Value.category, Option.toList_some, Option.toList_none, Nat.reduceAdd, Nat.reduceSub, Nat.reduceLT, Nat.reduceLeDiff, Nat.zero_add, Nat.le_refl, true_and, and_true, Nat.sub_zero, Nat.zero_lt_succ, Nat.zero_le, Nat.not_lt_zero, Nat.reduceEqDiff, Nat.one_ne_zero, nI_toInt, Int.reduceEq, Int.reduceAdd, Int.reduceLT, Int.reduceLE, Int.cast_ofNat_Int, reduceIte, or_false, false_or, eq_self, or_true, true_or, or_self, nI_clamp, vp_in_nI, nI_ltI, nI_leI, nI_eq, nI_add, nI_zero9, nI_nlt0, nI_le0, nI_lt0, arG, va_rf, not_false_eq_true, not_true_eq_false, false_implies, true_implies, implies_true, ne_eq, okv_int, okv_z0, okv_z1, okv_zN, okv_ref, okv_arr, okv_null, vn_z0, vn_z1, vn_zN, nr_int, nr_z, va_up_self, up_fr, rw1_j, rw1_up, if_pos hm, big_n, show (o + p ≤ 0) = False from eq_false (by omega), show (2147483639 < o + p) = False from eq_false (by omega)]
  exact hK)
abbrev Sp_J5_newCapacity_0f7a4 : Spt := fun as z f K => ∃ (a v w z0 m cap lt n : Nat) (b : Nat → Nat), as = [.ref a, .int (nI m)] ∧ f a = some (.inr (0, [.ref v, .int (nI 0), .int (nI lt), .int (nI n)])) ∧ f v = some (.inl (0, cap, .inl (rw1 b))) ∧ cap < m ∧ m ≤ cap + 2 ∧ 0 < cap ∧ cap < 40 ∧ K (some (.int (nI (cap + (cap + 2))))) z f
def rm_J5_newCapacity_0f7a4 : Room := { frames := 2, cells := 0, slots := 0, locals := 44 }
def q_J5_newCapacity_0f7a4_58 (ls : Ls) (st : List Value) (z : Zz) (f : Fm) (E : Ej) (R : Kr) : Prop := xret .int ls st z f E R
def q_J5_newCapacity_0f7a4_57 (ls : Ls) (st : List Value) (z : Zz) (f : Fm) (E : Ej) (R : Kr) : Prop := xbin (fun x y => x >>> (y &&& 31)) q_J5_newCapacity_0f7a4_58 ls st z f E R
def q_J5_newCapacity_0f7a4_54 (ls : Ls) (st : List Value) (z : Zz) (f : Fm) (E : Ej) (R : Kr) : Prop := xget 0 1 q_J5_newCapacity_0f7a4_57 ls st z f E R
def q_J5_newCapacity_0f7a4_53 (ls : Ls) (st : List Value) (z : Zz) (f : Fm) (E : Ej) (R : Kr) : Prop := xaload 0 q_J5_newCapacity_0f7a4_54 ls st z f E R
def q_J5_newCapacity_0f7a4_51 (ls : Ls) (st : List Value) (z : Zz) (f : Fm) (E : Ej) (R : Kr) : Prop := xiload 5 q_J5_newCapacity_0f7a4_53 ls st z f E R
def q_J5_newCapacity_0f7a4_38 (ls : Ls) (st : List Value) (z : Zz) (f : Fm) (E : Ej) (R : Kr) : Prop := xicmp (fun x y => ¬ x = y) q_J5_newCapacity_0f7a4_51 (xdead) ls st z f E R
def q_J5_newCapacity_0f7a4_36 (ls : Ls) (st : List Value) (z : Zz) (f : Fm) (E : Ej) (R : Kr) : Prop := xpush (.int 2147483647) q_J5_newCapacity_0f7a4_38 ls st z f E R
def q_J5_newCapacity_0f7a4_34 (ls : Ls) (st : List Value) (z : Zz) (f : Fm) (E : Ej) (R : Kr) : Prop := xiload 5 q_J5_newCapacity_0f7a4_36 ls st z f E R
def q_J5_newCapacity_0f7a4_32 (ls : Ls) (st : List Value) (z : Zz) (f : Fm) (E : Ej) (R : Kr) : Prop := xistore 5 q_J5_newCapacity_0f7a4_34 ls st z f E R
def q_J5_newCapacity_0f7a4_29 (ls : Ls) (st : List Value) (z : Zz) (f : Fm) (E : Ej) (R : Kr) : Prop := xcall 3 0 Sp_J8_newLength_cabcc 0 0 q_J5_newCapacity_0f7a4_32 ls st z f E R
def q_J5_newCapacity_0f7a4_28 (ls : Ls) (st : List Value) (z : Zz) (f : Fm) (E : Ej) (R : Kr) : Prop := xbin (fun x y => x + y) q_J5_newCapacity_0f7a4_29 ls st z f E R
def q_J5_newCapacity_0f7a4_27 (ls : Ls) (st : List Value) (z : Zz) (f : Fm) (E : Ej) (R : Kr) : Prop := xbin (fun x y => x <<< (y &&& 31)) q_J5_newCapacity_0f7a4_28 ls st z f E R
def q_J5_newCapacity_0f7a4_24 (ls : Ls) (st : List Value) (z : Zz) (f : Fm) (E : Ej) (R : Kr) : Prop := xget 0 1 q_J5_newCapacity_0f7a4_27 ls st z f E R
def q_J5_newCapacity_0f7a4_23 (ls : Ls) (st : List Value) (z : Zz) (f : Fm) (E : Ej) (R : Kr) : Prop := xaload 0 q_J5_newCapacity_0f7a4_24 ls st z f E R
def q_J5_newCapacity_0f7a4_22 (ls : Ls) (st : List Value) (z : Zz) (f : Fm) (E : Ej) (R : Kr) : Prop := xpush (.int (nI 2)) q_J5_newCapacity_0f7a4_23 ls st z f E R
def q_J5_newCapacity_0f7a4_21 (ls : Ls) (st : List Value) (z : Zz) (f : Fm) (E : Ej) (R : Kr) : Prop := xiload 2 q_J5_newCapacity_0f7a4_22 ls st z f E R
def q_J5_newCapacity_0f7a4_19 (ls : Ls) (st : List Value) (z : Zz) (f : Fm) (E : Ej) (R : Kr) : Prop := xiload 4 q_J5_newCapacity_0f7a4_21 ls st z f E R
def q_J5_newCapacity_0f7a4_18 (ls : Ls) (st : List Value) (z : Zz) (f : Fm) (E : Ej) (R : Kr) : Prop := xiload 2 q_J5_newCapacity_0f7a4_19 ls st z f E R
def q_J5_newCapacity_0f7a4_16 (ls : Ls) (st : List Value) (z : Zz) (f : Fm) (E : Ej) (R : Kr) : Prop := xistore 4 q_J5_newCapacity_0f7a4_18 ls st z f E R
def q_J5_newCapacity_0f7a4_15 (ls : Ls) (st : List Value) (z : Zz) (f : Fm) (E : Ej) (R : Kr) : Prop := xbin (fun x y => x - y) q_J5_newCapacity_0f7a4_16 ls st z f E R
def q_J5_newCapacity_0f7a4_14 (ls : Ls) (st : List Value) (z : Zz) (f : Fm) (E : Ej) (R : Kr) : Prop := xiload 2 q_J5_newCapacity_0f7a4_15 ls st z f E R
def q_J5_newCapacity_0f7a4_13 (ls : Ls) (st : List Value) (z : Zz) (f : Fm) (E : Ej) (R : Kr) : Prop := xiload 3 q_J5_newCapacity_0f7a4_14 ls st z f E R
def q_J5_newCapacity_0f7a4_12 (ls : Ls) (st : List Value) (z : Zz) (f : Fm) (E : Ej) (R : Kr) : Prop := xistore 3 q_J5_newCapacity_0f7a4_13 ls st z f E R
def q_J5_newCapacity_0f7a4_11 (ls : Ls) (st : List Value) (z : Zz) (f : Fm) (E : Ej) (R : Kr) : Prop := xbin (fun x y => x <<< (y &&& 31)) q_J5_newCapacity_0f7a4_12 ls st z f E R
def q_J5_newCapacity_0f7a4_8 (ls : Ls) (st : List Value) (z : Zz) (f : Fm) (E : Ej) (R : Kr) : Prop := xget 0 1 q_J5_newCapacity_0f7a4_11 ls st z f E R
def q_J5_newCapacity_0f7a4_7 (ls : Ls) (st : List Value) (z : Zz) (f : Fm) (E : Ej) (R : Kr) : Prop := xaload 0 q_J5_newCapacity_0f7a4_8 ls st z f E R
def q_J5_newCapacity_0f7a4_6 (ls : Ls) (st : List Value) (z : Zz) (f : Fm) (E : Ej) (R : Kr) : Prop := xiload 1 q_J5_newCapacity_0f7a4_7 ls st z f E R
def q_J5_newCapacity_0f7a4_5 (ls : Ls) (st : List Value) (z : Zz) (f : Fm) (E : Ej) (R : Kr) : Prop := xistore 2 q_J5_newCapacity_0f7a4_6 ls st z f E R
def q_J5_newCapacity_0f7a4_4 (ls : Ls) (st : List Value) (z : Zz) (f : Fm) (E : Ej) (R : Kr) : Prop := xalen q_J5_newCapacity_0f7a4_5 ls st z f E R
def q_J5_newCapacity_0f7a4_1 (ls : Ls) (st : List Value) (z : Zz) (f : Fm) (E : Ej) (R : Kr) : Prop := xget 0 0 q_J5_newCapacity_0f7a4_4 ls st z f E R
def q_J5_newCapacity_0f7a4_0 (ls : Ls) (st : List Value) (z : Zz) (f : Fm) (E : Ej) (R : Kr) : Prop := xaload 0 q_J5_newCapacity_0f7a4_1 ls st z f E R
set_option maxRecDepth 100000 in
theorem t_J5_newCapacity_0f7a4 {s0 : State} {D : va_G} {ids : Nat → ClassId} {V : Nat → Nat} {l : Launch} {K : Kr} {E : Ej} (G : GG s0 D ids V) (X : EnX s0 D ids l RJ5 cJ5_newCapacity_0f7a4 6 (some .int) "newCapacity" rm_J5_newCapacity_0f7a4 K E) : Sd E K 0 q_J5_newCapacity_0f7a4_0 := by
  have h58 : Sd E K 58 q_J5_newCapacity_0f7a4_58 := sd_ret X (by decide +kernel : decode cJ5_newCapacity_0f7a4 58 = .ok (.ireturn, 1))
  have h57 : Sd E K 57 q_J5_newCapacity_0f7a4_57 := sd_ishr X (by decide +kernel : decode cJ5_newCapacity_0f7a4 57 = .ok (.ishr, 1)) h58
  have h54 : Sd E K 54 q_J5_newCapacity_0f7a4_54 := sd_get X (by decide +kernel : decode cJ5_newCapacity_0f7a4 54 = .ok (.getfield 22, 3)) ok_J4 (Nat.le_of_ble_eq_true rfl) wd_329 h57
  have h53 : Sd E K 53 q_J5_newCapacity_0f7a4_53 := sd_aload_n X (by decide +kernel : decode cJ5_newCapacity_0f7a4 53 = .ok (.aload_n 0, 1)) rfl h54
  have h51 : Sd E K 51 q_J5_newCapacity_0f7a4_51 := sd_iload X (by decide +kernel : decode cJ5_newCapacity_0f7a4 51 = .ok (.iload 5, 2)) h53
  have h38 : Sd E K 38 q_J5_newCapacity_0f7a4_38 := sd_icmp_ne X (by decide +kernel : decode cJ5_newCapacity_0f7a4 38 = .ok (.if_icmp .ne 13, 3)) (by decide) h51 (sd_dead 41)
  have h36 : Sd E K 36 q_J5_newCapacity_0f7a4_36 := sd_ldc X (by decide +kernel : decode cJ5_newCapacity_0f7a4 36 = .ok (.ldc 39, 2)) wd_767 h38
  have h34 : Sd E K 34 q_J5_newCapacity_0f7a4_34 := sd_iload X (by decide +kernel : decode cJ5_newCapacity_0f7a4 34 = .ok (.iload 5, 2)) h36
  have h32 : Sd E K 32 q_J5_newCapacity_0f7a4_32 := sd_istore X (by decide +kernel : decode cJ5_newCapacity_0f7a4 32 = .ok (.istore 5, 2)) h34
  have h29 : Sd E K 29 q_J5_newCapacity_0f7a4_29 := sd_callS (n := 3) X (ct_J8_newLength_cabcc G) (by decide +kernel : decode cJ5_newCapacity_0f7a4 29 = .ok (.invokestatic 114, 3)) wd_759 wd_757 wd_758 wd_45 (by decide +kernel) ⟨Nat.le_of_ble_eq_true rfl, Nat.le_of_ble_eq_true rfl⟩ h32
  have h28 : Sd E K 28 q_J5_newCapacity_0f7a4_28 := sd_iadd X (by decide +kernel : decode cJ5_newCapacity_0f7a4 28 = .ok (.iadd, 1)) h29
  have h27 : Sd E K 27 q_J5_newCapacity_0f7a4_27 := sd_ishl X (by decide +kernel : decode cJ5_newCapacity_0f7a4 27 = .ok (.ishl, 1)) h28
  have h24 : Sd E K 24 q_J5_newCapacity_0f7a4_24 := sd_get X (by decide +kernel : decode cJ5_newCapacity_0f7a4 24 = .ok (.getfield 22, 3)) ok_J4 (Nat.le_of_ble_eq_true rfl) wd_329 h27
  have h23 : Sd E K 23 q_J5_newCapacity_0f7a4_23 := sd_aload_n X (by decide +kernel : decode cJ5_newCapacity_0f7a4 23 = .ok (.aload_n 0, 1)) rfl h24
  have h22 : Sd E K 22 q_J5_newCapacity_0f7a4_22 := sd_iconst X (by decide +kernel : decode cJ5_newCapacity_0f7a4 22 = .ok (.iconst 2, 1)) (by decide +kernel) h23
  have h21 : Sd E K 21 q_J5_newCapacity_0f7a4_21 := sd_iload_n X (by decide +kernel : decode cJ5_newCapacity_0f7a4 21 = .ok (.iload_n 2, 1)) rfl h22
  have h19 : Sd E K 19 q_J5_newCapacity_0f7a4_19 := sd_iload X (by decide +kernel : decode cJ5_newCapacity_0f7a4 19 = .ok (.iload 4, 2)) h21
  have h18 : Sd E K 18 q_J5_newCapacity_0f7a4_18 := sd_iload_n X (by decide +kernel : decode cJ5_newCapacity_0f7a4 18 = .ok (.iload_n 2, 1)) rfl h19
  have h16 : Sd E K 16 q_J5_newCapacity_0f7a4_16 := sd_istore X (by decide +kernel : decode cJ5_newCapacity_0f7a4 16 = .ok (.istore 4, 2)) h18
  have h15 : Sd E K 15 q_J5_newCapacity_0f7a4_15 := sd_isub X (by decide +kernel : decode cJ5_newCapacity_0f7a4 15 = .ok (.isub, 1)) h16
  have h14 : Sd E K 14 q_J5_newCapacity_0f7a4_14 := sd_iload_n X (by decide +kernel : decode cJ5_newCapacity_0f7a4 14 = .ok (.iload_n 2, 1)) rfl h15
  have h13 : Sd E K 13 q_J5_newCapacity_0f7a4_13 := sd_iload_n X (by decide +kernel : decode cJ5_newCapacity_0f7a4 13 = .ok (.iload_n 3, 1)) rfl h14
  have h12 : Sd E K 12 q_J5_newCapacity_0f7a4_12 := sd_istore_n X (by decide +kernel : decode cJ5_newCapacity_0f7a4 12 = .ok (.istore_n 3, 1)) rfl h13
  have h11 : Sd E K 11 q_J5_newCapacity_0f7a4_11 := sd_ishl X (by decide +kernel : decode cJ5_newCapacity_0f7a4 11 = .ok (.ishl, 1)) h12
  have h8 : Sd E K 8 q_J5_newCapacity_0f7a4_8 := sd_get X (by decide +kernel : decode cJ5_newCapacity_0f7a4 8 = .ok (.getfield 22, 3)) ok_J4 (Nat.le_of_ble_eq_true rfl) wd_329 h11
  have h7 : Sd E K 7 q_J5_newCapacity_0f7a4_7 := sd_aload_n X (by decide +kernel : decode cJ5_newCapacity_0f7a4 7 = .ok (.aload_n 0, 1)) rfl h8
  have h6 : Sd E K 6 q_J5_newCapacity_0f7a4_6 := sd_iload_n X (by decide +kernel : decode cJ5_newCapacity_0f7a4 6 = .ok (.iload_n 1, 1)) rfl h7
  have h5 : Sd E K 5 q_J5_newCapacity_0f7a4_5 := sd_istore_n X (by decide +kernel : decode cJ5_newCapacity_0f7a4 5 = .ok (.istore_n 2, 1)) rfl h6
  have h4 : Sd E K 4 q_J5_newCapacity_0f7a4_4 := sd_alen X (by decide +kernel : decode cJ5_newCapacity_0f7a4 4 = .ok (.arraylength, 1)) h5
  have h1 : Sd E K 1 q_J5_newCapacity_0f7a4_1 := sd_get X (by decide +kernel : decode cJ5_newCapacity_0f7a4 1 = .ok (.getfield 15, 3)) ok_J4 (Nat.le_of_ble_eq_true rfl) wd_328 h4
  have h0 : Sd E K 0 q_J5_newCapacity_0f7a4_0 := sd_aload_n X (by decide +kernel : decode cJ5_newCapacity_0f7a4 0 = .ok (.aload_n 0, 1)) rfl h1
  exact h0
set_option maxHeartbeats 4000000 in
set_option maxRecDepth 100000 in
theorem ct_J5_newCapacity_0f7a4 {s0 : State} {D : va_G} {ids : Nat → ClassId} {V : Nat → Nat} {l : Launch} (G : GG s0 D ids V) : CT s0 D ids l yJ5_newCapacity_0f7a4 cJ5_newCapacity_0f7a4 6 (some .int) rm_J5_newCapacity_0f7a4 Sp_J5_newCapacity_0f7a4 := CT.of (by decide +kernel) G.k (by
  rintro as z f K E ⟨a, v, w, z0, m, cap, lt, n, b, rfl, i1, i2, h1, h2, h0, h3, hK⟩ X
  refine ⟨Nat.le_of_ble_eq_true rfl, by simp [Value.category], t_J5_newCapacity_0f7a4 G X _ _ _ _ ?_⟩
  simp (disch := omega) only [q_J5_newCapacity_0f7a4_0, q_J5_newCapacity_0f7a4_1, q_J5_newCapacity_0f7a4_4, q_J5_newCapacity_0f7a4_5, q_J5_newCapacity_0f7a4_6, q_J5_newCapacity_0f7a4_7, q_J5_newCapacity_0f7a4_8, q_J5_newCapacity_0f7a4_11, q_J5_newCapacity_0f7a4_12, q_J5_newCapacity_0f7a4_13, q_J5_newCapacity_0f7a4_14, q_J5_newCapacity_0f7a4_15, q_J5_newCapacity_0f7a4_16, q_J5_newCapacity_0f7a4_18, q_J5_newCapacity_0f7a4_19, q_J5_newCapacity_0f7a4_21, q_J5_newCapacity_0f7a4_22, q_J5_newCapacity_0f7a4_23, q_J5_newCapacity_0f7a4_24, q_J5_newCapacity_0f7a4_27, q_J5_newCapacity_0f7a4_28, q_J5_newCapacity_0f7a4_29, q_J5_newCapacity_0f7a4_32, q_J5_newCapacity_0f7a4_34, q_J5_newCapacity_0f7a4_36, q_J5_newCapacity_0f7a4_38, q_J5_newCapacity_0f7a4_51, q_J5_newCapacity_0f7a4_53, q_J5_newCapacity_0f7a4_54, q_J5_newCapacity_0f7a4_57, q_J5_newCapacity_0f7a4_58, xpush, xiload, xaload, xlload, xfload, xdload, lkill, xistore, xastore, xfstore, xlstore, xdstore, xiinc, xbin, xdiv, xun, xlbin, xi2l, xi2f, xi2d, xlcmp, xfcmp, xdcmp, xfdiv, xddiv, c1, xdup, xpop, xdup_x1, xdup2, xif, xicmp, xtab, xtabL, xget, xput, xald, xast, xalen, xnew, xnewa, c1s, recvOk, xcall, kont, xret, xlret, xfret, xdret, xaret, xvret, xs, xnewq, xastq, xcopy, xcopyF, xobj, xmax, xmin, xdead, xpushq, xmna, ls0, List.map_cons, List.map_nil, List.length_cons, List.length_nil, List.replicate, List.append_nil, List.cons_append, List.nil_append, List.getElem?_cons_zero, List.getElem?_cons_succ, List.getElem?_nil, List.set_cons_zero, List.set_cons_succ, List.take_succ_cons, List.take_zero, List.drop_succ_cons, List.drop_zero, List.reverse_cons, List.reverse_nil, List.sum_cons, List.sum_nil, Value.category, Option.toList_some, Option.toList_none, Nat.reduceAdd, Nat.reduceSub, Nat.reduceLT, Nat.reduceLeDiff, Nat.zero_add, Nat.le_refl, true_and, and_true, Nat.sub_zero, Nat.zero_lt_succ, Nat.zero_le, Nat.not_lt_zero, Nat.reduceEqDiff, Nat.one_ne_zero, nI_toInt, Int.reduceEq, Int.reduceAdd, Int.reduceLT, Int.reduceLE, Int.cast_ofNat_Int, reduceIte, or_false, false_or, eq_self, or_true, true_or, or_self, nI_clamp, vp_in_nI, nI_ltI, nI_leI, nI_eq, nI_add, nI_zero9, nI_nlt0, nI_le0, nI_lt0, arG, va_rf, not_false_eq_true, not_true_eq_false, false_implies, true_implies, implies_true, ne_eq, okv_int, okv_z0, okv_z1, okv_zN, okv_ref, okv_arr, okv_null, vn_z0, vn_z1, vn_zN, nr_int, nr_z, va_up_self, up_fr, rw1_j, rw1_up, i1, i2, sl0, sr0, nI_sub]
  refine ⟨cap, m - cap, cap + 2, rfl, by omega, by omega, by omega, by omega, ?_⟩
  simp (disch := omega) only [q_J5_newCapacity_0f7a4_0, q_J5_newCapacity_0f7a4_1, q_J5_newCapacity_0f7a4_4, q_J5_newCapacity_0f7a4_5, q_J5_newCapacity_0f7a4_6, q_J5_newCapacity_0f7a4_7, q_J5_newCapacity_0f7a4_8, q_J5_newCapacity_0f7a4_11, q_J5_newCapacity_0f7a4_12, q_J5_newCapacity_0f7a4_13, q_J5_newCapacity_0f7a4_14, q_J5_newCapacity_0f7a4_15, q_J5_newCapacity_0f7a4_16, q_J5_newCapacity_0f7a4_18, q_J5_newCapacity_0f7a4_19, q_J5_newCapacity_0f7a4_21, q_J5_newCapacity_0f7a4_22, q_J5_newCapacity_0f7a4_23, q_J5_newCapacity_0f7a4_24, q_J5_newCapacity_0f7a4_27, q_J5_newCapacity_0f7a4_28, q_J5_newCapacity_0f7a4_29, q_J5_newCapacity_0f7a4_32, q_J5_newCapacity_0f7a4_34, q_J5_newCapacity_0f7a4_36, q_J5_newCapacity_0f7a4_38, q_J5_newCapacity_0f7a4_51, q_J5_newCapacity_0f7a4_53, q_J5_newCapacity_0f7a4_54, q_J5_newCapacity_0f7a4_57, q_J5_newCapacity_0f7a4_58, xpush, xiload, xaload, xlload, xfload, xdload, lkill, xistore, xastore, xfstore, xlstore, xdstore, xiinc, xbin, xdiv, xun, xlbin, xi2l, xi2f, xi2d, xlcmp, xfcmp, xdcmp, xfdiv, xddiv, c1, xdup, xpop, xdup_x1, xdup2, xif, xicmp, xtab, xtabL, xget, xput, xald, xast, xalen, xnew, xnewa, c1s, recvOk, xcall, kont, xret, xlret, xfret, xdret, xaret, xvret, xs, xnewq, xastq, xcopy, xcopyF, xobj, xmax, xmin, xdead, xpushq, xmna, ls0, List.map_cons, List.map_nil, List.length_cons, List.length_nil, List.replicate, List.append_nil, List.cons_append, List.nil_append, List.getElem?_cons_zero, List.getElem?_cons_succ, List.getElem?_nil, List.set_cons_zero, List.set_cons_succ, List.take_succ_cons, List.take_zero, List.drop_succ_cons, List.drop_zero, List.reverse_cons, List.reverse_nil, List.sum_cons, List.sum_nil, Value.category, Option.toList_some, Option.toList_none, Nat.reduceAdd, Nat.reduceSub, Nat.reduceLT, Nat.reduceLeDiff, Nat.zero_add, Nat.le_refl, true_and, and_true, Nat.sub_zero, Nat.zero_lt_succ, Nat.zero_le, Nat.not_lt_zero, Nat.reduceEqDiff, Nat.one_ne_zero, nI_toInt, Int.reduceEq, Int.reduceAdd, Int.reduceLT, Int.reduceLE, Int.cast_ofNat_Int, reduceIte, or_false, false_or, eq_self, or_true, true_or, or_self, nI_clamp, vp_in_nI, nI_ltI, nI_leI, nI_eq, nI_add, nI_zero9, nI_nlt0, nI_le0, nI_lt0, arG, va_rf, not_false_eq_true, not_true_eq_false, false_implies, true_implies, implies_true, ne_eq, okv_int, okv_z0, okv_z1, okv_zN, okv_ref, okv_arr, okv_null, vn_z0, vn_z1, vn_zN, nr_int, nr_z, va_up_self, up_fr, rw1_j, rw1_up, i1, i2, sl0, sr0, max_n, show (cap + (cap + 2) = 2147483647) = False from eq_false (by omega)]
  exact hK)
abbrev Sp_J7_copyOf_9075b : Spt := fun as z f K => ∃ (v m cap : Nat) (b : Nat → Nat), as = [.ref v, .int (nI m)] ∧ f v = some (.inl (0, cap, .inl (rw1 b))) ∧ cap < m ∧ m ≤ 70 ∧ v < z ∧ (∀ j, b j < 128) ∧ ∀ b', (∀ j, j < cap → b' j = b j) → (∀ j, b' j < 128) → K (some (.ref z)) (z + 1) (va_up f z (some (.inl (0, m, .inl (rw1 b')))))
def rm_J7_copyOf_9075b : Room := { frames := 1, cells := 1, slots := 70, locals := 26 }
def q_J7_copyOf_9075b_32 (ls : Ls) (st : List Value) (z : Zz) (f : Fm) (E : Ej) (R : Kr) : Prop := xaret ls st z f E R
def q_J7_copyOf_9075b_31 (ls : Ls) (st : List Value) (z : Zz) (f : Fm) (E : Ej) (R : Kr) : Prop := xaload 2 q_J7_copyOf_9075b_32 ls st z f E R
def q_J7_copyOf_9075b_28 (ls : Ls) (st : List Value) (z : Zz) (f : Fm) (E : Ej) (R : Kr) : Prop := xcopy 0 q_J7_copyOf_9075b_31 ls st z f E R
def q_J7_copyOf_9075b_25 (ls : Ls) (st : List Value) (z : Zz) (f : Fm) (E : Ej) (R : Kr) : Prop := xmin q_J7_copyOf_9075b_28 ls st z f E R
def q_J7_copyOf_9075b_24 (ls : Ls) (st : List Value) (z : Zz) (f : Fm) (E : Ej) (R : Kr) : Prop := xiload 1 q_J7_copyOf_9075b_25 ls st z f E R
def q_J7_copyOf_9075b_23 (ls : Ls) (st : List Value) (z : Zz) (f : Fm) (E : Ej) (R : Kr) : Prop := xalen q_J7_copyOf_9075b_24 ls st z f E R
def q_J7_copyOf_9075b_22 (ls : Ls) (st : List Value) (z : Zz) (f : Fm) (E : Ej) (R : Kr) : Prop := xaload 0 q_J7_copyOf_9075b_23 ls st z f E R
def q_J7_copyOf_9075b_21 (ls : Ls) (st : List Value) (z : Zz) (f : Fm) (E : Ej) (R : Kr) : Prop := xpush (.int (nI 0)) q_J7_copyOf_9075b_22 ls st z f E R
def q_J7_copyOf_9075b_20 (ls : Ls) (st : List Value) (z : Zz) (f : Fm) (E : Ej) (R : Kr) : Prop := xaload 2 q_J7_copyOf_9075b_21 ls st z f E R
def q_J7_copyOf_9075b_19 (ls : Ls) (st : List Value) (z : Zz) (f : Fm) (E : Ej) (R : Kr) : Prop := xpush (.int (nI 0)) q_J7_copyOf_9075b_20 ls st z f E R
def q_J7_copyOf_9075b_18 (ls : Ls) (st : List Value) (z : Zz) (f : Fm) (E : Ej) (R : Kr) : Prop := xaload 0 q_J7_copyOf_9075b_19 ls st z f E R
def q_J7_copyOf_9075b_17 (ls : Ls) (st : List Value) (z : Zz) (f : Fm) (E : Ej) (R : Kr) : Prop := xastore 2 q_J7_copyOf_9075b_18 ls st z f E R
def q_J7_copyOf_9075b_15 (ls : Ls) (st : List Value) (z : Zz) (f : Fm) (E : Ej) (R : Kr) : Prop := xnewa 0 q_J7_copyOf_9075b_17 ls st z f E R
def q_J7_copyOf_9075b_14 (ls : Ls) (st : List Value) (z : Zz) (f : Fm) (E : Ej) (R : Kr) : Prop := xiload 1 q_J7_copyOf_9075b_15 ls st z f E R
def q_J7_copyOf_9075b_3 (ls : Ls) (st : List Value) (z : Zz) (f : Fm) (E : Ej) (R : Kr) : Prop := xicmp (fun x y => ¬ x = y) q_J7_copyOf_9075b_14 (xdead) ls st z f E R
def q_J7_copyOf_9075b_2 (ls : Ls) (st : List Value) (z : Zz) (f : Fm) (E : Ej) (R : Kr) : Prop := xalen q_J7_copyOf_9075b_3 ls st z f E R
def q_J7_copyOf_9075b_1 (ls : Ls) (st : List Value) (z : Zz) (f : Fm) (E : Ej) (R : Kr) : Prop := xaload 0 q_J7_copyOf_9075b_2 ls st z f E R
def q_J7_copyOf_9075b_0 (ls : Ls) (st : List Value) (z : Zz) (f : Fm) (E : Ej) (R : Kr) : Prop := xiload 1 q_J7_copyOf_9075b_1 ls st z f E R
set_option maxRecDepth 100000 in
theorem t_J7_copyOf_9075b {s0 : State} {D : va_G} {ids : Nat → ClassId} {V : Nat → Nat} {l : Launch} {K : Kr} {E : Ej} (G : GG s0 D ids V) (X : EnX s0 D ids l RJ7 cJ7_copyOf_9075b 3 (some (.array .byte)) "copyOf" rm_J7_copyOf_9075b K E) : Sd E K 0 q_J7_copyOf_9075b_0 := by
  have h32 : Sd E K 32 q_J7_copyOf_9075b_32 := sd_aret X (by first | exact Or.inl ⟨_, rfl⟩ | exact Or.inr ⟨_, rfl⟩) (by decide +kernel : decode cJ7_copyOf_9075b 32 = .ok (.areturn, 1))
  have h31 : Sd E K 31 q_J7_copyOf_9075b_31 := sd_aload_n X (by decide +kernel : decode cJ7_copyOf_9075b 31 = .ok (.aload_n 2, 1)) rfl h32
  have h28 : Sd E K 28 q_J7_copyOf_9075b_28 := sd_copy X (Nat.le_of_ble_eq_true rfl) rfl (by decide +kernel : decode cJ7_copyOf_9075b 28 = .ok (.invokestatic 150, 3)) wd_779 wd_429 wd_428 wd_41 (Nat.le_of_ble_eq_true rfl) (Nat.le_of_ble_eq_true rfl) h31
  have h25 : Sd E K 25 q_J7_copyOf_9075b_25 := sd_min X (by decide +kernel : decode cJ7_copyOf_9075b 25 = .ok (.invokestatic 304, 3)) wd_778 (Nat.le_of_ble_eq_true rfl) (Nat.le_of_ble_eq_true rfl) h28
  have h24 : Sd E K 24 q_J7_copyOf_9075b_24 := sd_iload_n X (by decide +kernel : decode cJ7_copyOf_9075b 24 = .ok (.iload_n 1, 1)) rfl h25
  have h23 : Sd E K 23 q_J7_copyOf_9075b_23 := sd_alen X (by decide +kernel : decode cJ7_copyOf_9075b 23 = .ok (.arraylength, 1)) h24
  have h22 : Sd E K 22 q_J7_copyOf_9075b_22 := sd_aload_n X (by decide +kernel : decode cJ7_copyOf_9075b 22 = .ok (.aload_n 0, 1)) rfl h23
  have h21 : Sd E K 21 q_J7_copyOf_9075b_21 := sd_iconst X (by decide +kernel : decode cJ7_copyOf_9075b 21 = .ok (.iconst 0, 1)) (by decide +kernel) h22
  have h20 : Sd E K 20 q_J7_copyOf_9075b_20 := sd_aload_n X (by decide +kernel : decode cJ7_copyOf_9075b 20 = .ok (.aload_n 2, 1)) rfl h21
  have h19 : Sd E K 19 q_J7_copyOf_9075b_19 := sd_iconst X (by decide +kernel : decode cJ7_copyOf_9075b 19 = .ok (.iconst 0, 1)) (by decide +kernel) h20
  have h18 : Sd E K 18 q_J7_copyOf_9075b_18 := sd_aload_n X (by decide +kernel : decode cJ7_copyOf_9075b 18 = .ok (.aload_n 0, 1)) rfl h19
  have h17 : Sd E K 17 q_J7_copyOf_9075b_17 := sd_astore_n X (by decide +kernel : decode cJ7_copyOf_9075b 17 = .ok (.astore_n 2, 1)) rfl h18
  have h15 : Sd E K 15 q_J7_copyOf_9075b_15 := sd_newa X (Nat.le_of_ble_eq_true rfl) rfl rfl (by decide) (by decide +kernel : decode cJ7_copyOf_9075b 15 = .ok (.newarray .byte, 2)) wd_341 (G.nm0) h17
  have h14 : Sd E K 14 q_J7_copyOf_9075b_14 := sd_iload_n X (by decide +kernel : decode cJ7_copyOf_9075b 14 = .ok (.iload_n 1, 1)) rfl h15
  have h3 : Sd E K 3 q_J7_copyOf_9075b_3 := sd_icmp_ne X (by decide +kernel : decode cJ7_copyOf_9075b 3 = .ok (.if_icmp .ne 11, 3)) (by decide) h14 (sd_dead 6)
  have h2 : Sd E K 2 q_J7_copyOf_9075b_2 := sd_alen X (by decide +kernel : decode cJ7_copyOf_9075b 2 = .ok (.arraylength, 1)) h3
  have h1 : Sd E K 1 q_J7_copyOf_9075b_1 := sd_aload_n X (by decide +kernel : decode cJ7_copyOf_9075b 1 = .ok (.aload_n 0, 1)) rfl h2
  have h0 : Sd E K 0 q_J7_copyOf_9075b_0 := sd_iload_n X (by decide +kernel : decode cJ7_copyOf_9075b 0 = .ok (.iload_n 1, 1)) rfl h1
  exact h0
set_option maxHeartbeats 4000000 in
set_option maxRecDepth 100000 in
theorem ct_J7_copyOf_9075b {s0 : State} {D : va_G} {ids : Nat → ClassId} {V : Nat → Nat} {l : Launch} (G : GG s0 D ids V) : CT s0 D ids l yJ7_copyOf_9075b cJ7_copyOf_9075b 3 (some (.array .byte)) rm_J7_copyOf_9075b Sp_J7_copyOf_9075b := CT.of (by decide +kernel) G.k (by
  rintro as z f K E ⟨v, m, cap, b, rfl, i2, h1, h2, h3, hb, hK⟩ X
  refine ⟨Nat.le_of_ble_eq_true rfl, by simp [Value.category], t_J7_copyOf_9075b G X _ _ _ _ ?_⟩
  simp (disch := omega) only [q_J7_copyOf_9075b_0, q_J7_copyOf_9075b_1, q_J7_copyOf_9075b_2, q_J7_copyOf_9075b_3, q_J7_copyOf_9075b_14, q_J7_copyOf_9075b_15, q_J7_copyOf_9075b_17, q_J7_copyOf_9075b_18, q_J7_copyOf_9075b_19, q_J7_copyOf_9075b_20, q_J7_copyOf_9075b_21, q_J7_copyOf_9075b_22, q_J7_copyOf_9075b_23, q_J7_copyOf_9075b_24, q_J7_copyOf_9075b_25, q_J7_copyOf_9075b_28, q_J7_copyOf_9075b_31, q_J7_copyOf_9075b_32, xpush, xiload, xaload, xlload, xfload, xdload, lkill, xistore, xastore, xfstore, xlstore, xdstore, xiinc, xbin, xdiv, xun, xlbin, xi2l, xi2f, xi2d, xlcmp, xfcmp, xdcmp, xfdiv, xddiv, c1, xdup, xpop, xdup_x1, xdup2, xif, xicmp, xtab, xtabL, xget, xput, xald, xast, xalen, xnew, xnewa, c1s, recvOk, xcall, kont, xret, xlret, xfret, xdret, xaret, xvret, xs, xnewq, xastq, xcopy, xcopyF, xobj, xmax, xmin, xdead, xpushq, xmna, ls0, List.map_cons, List.map_nil, List.length_cons, List.length_nil, List.replicate, List.append_nil, List.cons_append, List.nil_append, List.getElem?_cons_zero, List.getElem?_cons_succ, List.getElem?_nil, List.set_cons_zero, List.set_cons_succ, List.take_succ_cons, List.take_zero, List.drop_succ_cons, List.drop_zero, List.reverse_cons, List.reverse_nil, List.sum_cons, List.sum_nil, Value.category, Option.toList_some, Option.toList_none, Nat.reduceAdd, Nat.reduceSub, Nat.reduceLT, Nat.reduceLeDiff, Nat.zero_add, Nat.le_refl, true_and, and_true, Nat.sub_zero, Nat.zero_lt_succ, Nat.zero_le, Nat.not_lt_zero, Nat.reduceEqDiff, Nat.one_ne_zero, nI_toInt, Int.reduceEq, Int.reduceAdd, Int.reduceLT, Int.reduceLE, Int.cast_ofNat_Int, reduceIte, or_false, false_or, eq_self, or_true, true_or, or_self, nI_clamp, vp_in_nI, nI_ltI, nI_leI, nI_eq, nI_add, nI_zero9, nI_nlt0, nI_le0, nI_lt0, arG, va_rf, not_false_eq_true, not_true_eq_false, false_implies, true_implies, implies_true, ne_eq, okv_int, okv_z0, okv_z1, okv_zN, okv_ref, okv_arr, okv_null, vn_z0, vn_z1, vn_zN, nr_int, nr_z, va_up_self, up_fr, rw1_j, rw1_up, i2, if_neg (show ¬ m < cap by omega)]
  refine ⟨fun _ => ⟨by omega, Nat.le_of_ble_eq_true rfl, by show m ≤ 70; omega, by omega, fun i hi => fits_by (hb i), ?_⟩, fun q => absurd q (by omega)⟩
  have e : va_cpy (rw1 b) (fun _ => nI 0) 0 0 cap = rw1 (fun j => if j < cap then b j else 0) := by
    funext j
    show (if 0 ≤ j ∧ j < 0 + cap then nI (b (0 + (j - 0))) else nI 0) = nI (if j < cap then b j else 0)
    by_cases q : j < cap
    · rw [if_pos q, if_pos ⟨Nat.zero_le _, by omega⟩]
      simp
    · rw [if_neg q, if_neg (by omega)]
  rw [e, va_up_up9]
  exact hK _ (fun j hj => if_pos hj) (fun j => by
    show (if j < cap then b j else 0) < 128
    split
    · exact hb j
    · omega))
abbrev Sp_J5_ensureCapacityInternal_d00df : Spt := fun as z f K => ∃ (a v w m : Nat) (L : List Nat), as = [.ref a, .int (nI m)] ∧ m ≤ L.length + 2 ∧ m ≤ 62 ∧ isSB f a v w z L ∧ ∀ (z' : Nat) (f' : Fm) (v' cap lt : Nat) (b : Nat → Nat), z ≤ z' → isSBx f' a v' w z' L cap lt b → m ≤ cap → (v' = v ∨ z ≤ v') → (∀ q, q ≠ a → q ≠ v → q < z → f' q = f q) → K none z' f'
def rm_J5_ensureCapacityInternal_d00df : Room := { frames := 3, cells := 1, slots := 70, locals := 69 }
def q_J5_ensureCapacityInternal_d00df_38 (ls : Ls) (st : List Value) (z : Zz) (f : Fm) (E : Ej) (R : Kr) : Prop := xvret ls st z f E R
def q_J5_ensureCapacityInternal_d00df_35 (ls : Ls) (st : List Value) (z : Zz) (f : Fm) (E : Ej) (R : Kr) : Prop := xput 0 0 (.array .byte) q_J5_ensureCapacityInternal_d00df_38 ls st z f E R
def q_J5_ensureCapacityInternal_d00df_32 (ls : Ls) (st : List Value) (z : Zz) (f : Fm) (E : Ej) (R : Kr) : Prop := xcall 2 0 Sp_J7_copyOf_9075b 1 70 q_J5_ensureCapacityInternal_d00df_35 ls st z f E R
def q_J5_ensureCapacityInternal_d00df_31 (ls : Ls) (st : List Value) (z : Zz) (f : Fm) (E : Ej) (R : Kr) : Prop := xbin (fun x y => x <<< (y &&& 31)) q_J5_ensureCapacityInternal_d00df_32 ls st z f E R
def q_J5_ensureCapacityInternal_d00df_28 (ls : Ls) (st : List Value) (z : Zz) (f : Fm) (E : Ej) (R : Kr) : Prop := xget 0 1 q_J5_ensureCapacityInternal_d00df_31 ls st z f E R
def q_J5_ensureCapacityInternal_d00df_27 (ls : Ls) (st : List Value) (z : Zz) (f : Fm) (E : Ej) (R : Kr) : Prop := xaload 0 q_J5_ensureCapacityInternal_d00df_28 ls st z f E R
def q_J5_ensureCapacityInternal_d00df_24 (ls : Ls) (st : List Value) (z : Zz) (f : Fm) (E : Ej) (R : Kr) : Prop := xcall 2 1 Sp_J5_newCapacity_0f7a4 0 0 q_J5_ensureCapacityInternal_d00df_27 ls st z f E R
def q_J5_ensureCapacityInternal_d00df_23 (ls : Ls) (st : List Value) (z : Zz) (f : Fm) (E : Ej) (R : Kr) : Prop := xiload 1 q_J5_ensureCapacityInternal_d00df_24 ls st z f E R
def q_J5_ensureCapacityInternal_d00df_22 (ls : Ls) (st : List Value) (z : Zz) (f : Fm) (E : Ej) (R : Kr) : Prop := xaload 0 q_J5_ensureCapacityInternal_d00df_23 ls st z f E R
def q_J5_ensureCapacityInternal_d00df_19 (ls : Ls) (st : List Value) (z : Zz) (f : Fm) (E : Ej) (R : Kr) : Prop := xget 0 0 q_J5_ensureCapacityInternal_d00df_22 ls st z f E R
def q_J5_ensureCapacityInternal_d00df_18 (ls : Ls) (st : List Value) (z : Zz) (f : Fm) (E : Ej) (R : Kr) : Prop := xaload 0 q_J5_ensureCapacityInternal_d00df_19 ls st z f E R
def q_J5_ensureCapacityInternal_d00df_17 (ls : Ls) (st : List Value) (z : Zz) (f : Fm) (E : Ej) (R : Kr) : Prop := xaload 0 q_J5_ensureCapacityInternal_d00df_18 ls st z f E R
def q_J5_ensureCapacityInternal_d00df_14 (ls : Ls) (st : List Value) (z : Zz) (f : Fm) (E : Ej) (R : Kr) : Prop := xif (fun x => x ≤ 0) q_J5_ensureCapacityInternal_d00df_38 q_J5_ensureCapacityInternal_d00df_17 ls st z f E R
def q_J5_ensureCapacityInternal_d00df_13 (ls : Ls) (st : List Value) (z : Zz) (f : Fm) (E : Ej) (R : Kr) : Prop := xbin (fun x y => x - y) q_J5_ensureCapacityInternal_d00df_14 ls st z f E R
def q_J5_ensureCapacityInternal_d00df_12 (ls : Ls) (st : List Value) (z : Zz) (f : Fm) (E : Ej) (R : Kr) : Prop := xiload 2 q_J5_ensureCapacityInternal_d00df_13 ls st z f E R
def q_J5_ensureCapacityInternal_d00df_11 (ls : Ls) (st : List Value) (z : Zz) (f : Fm) (E : Ej) (R : Kr) : Prop := xiload 1 q_J5_ensureCapacityInternal_d00df_12 ls st z f E R
def q_J5_ensureCapacityInternal_d00df_10 (ls : Ls) (st : List Value) (z : Zz) (f : Fm) (E : Ej) (R : Kr) : Prop := xistore 2 q_J5_ensureCapacityInternal_d00df_11 ls st z f E R
def q_J5_ensureCapacityInternal_d00df_9 (ls : Ls) (st : List Value) (z : Zz) (f : Fm) (E : Ej) (R : Kr) : Prop := xbin (fun x y => x >>> (y &&& 31)) q_J5_ensureCapacityInternal_d00df_10 ls st z f E R
def q_J5_ensureCapacityInternal_d00df_6 (ls : Ls) (st : List Value) (z : Zz) (f : Fm) (E : Ej) (R : Kr) : Prop := xget 0 1 q_J5_ensureCapacityInternal_d00df_9 ls st z f E R
def q_J5_ensureCapacityInternal_d00df_5 (ls : Ls) (st : List Value) (z : Zz) (f : Fm) (E : Ej) (R : Kr) : Prop := xaload 0 q_J5_ensureCapacityInternal_d00df_6 ls st z f E R
def q_J5_ensureCapacityInternal_d00df_4 (ls : Ls) (st : List Value) (z : Zz) (f : Fm) (E : Ej) (R : Kr) : Prop := xalen q_J5_ensureCapacityInternal_d00df_5 ls st z f E R
def q_J5_ensureCapacityInternal_d00df_1 (ls : Ls) (st : List Value) (z : Zz) (f : Fm) (E : Ej) (R : Kr) : Prop := xget 0 0 q_J5_ensureCapacityInternal_d00df_4 ls st z f E R
def q_J5_ensureCapacityInternal_d00df_0 (ls : Ls) (st : List Value) (z : Zz) (f : Fm) (E : Ej) (R : Kr) : Prop := xaload 0 q_J5_ensureCapacityInternal_d00df_1 ls st z f E R
set_option maxRecDepth 100000 in
theorem t_J5_ensureCapacityInternal_d00df {s0 : State} {D : va_G} {ids : Nat → ClassId} {V : Nat → Nat} {l : Launch} {K : Kr} {E : Ej} (G : GG s0 D ids V) (X : EnX s0 D ids l RJ5 cJ5_ensureCapacityInternal_d00df 3 none "ensureCapacityInternal" rm_J5_ensureCapacityInternal_d00df K E) : Sd E K 0 q_J5_ensureCapacityInternal_d00df_0 := by
  have h38 : Sd E K 38 q_J5_ensureCapacityInternal_d00df_38 := sd_vret X (by decide +kernel : decode cJ5_ensureCapacityInternal_d00df 38 = .ok (.return_, 1))
  have h35 : Sd E K 35 q_J5_ensureCapacityInternal_d00df_35 := sd_put X (by decide +kernel : decode cJ5_ensureCapacityInternal_d00df 35 = .ok (.putfield 15, 3)) ok_J4 (Nat.le_of_ble_eq_true rfl) rfl rfl wd_328 h38
  have h32 : Sd E K 32 q_J5_ensureCapacityInternal_d00df_32 := sd_callS (n := 2) X (ct_J7_copyOf_9075b G) (by decide +kernel : decode cJ5_ensureCapacityInternal_d00df 32 = .ok (.invokestatic 108, 3)) wd_770 wd_768 wd_769 wd_46 (by decide +kernel) ⟨Nat.le_of_ble_eq_true rfl, Nat.le_of_ble_eq_true rfl⟩ h35
  have h31 : Sd E K 31 q_J5_ensureCapacityInternal_d00df_31 := sd_ishl X (by decide +kernel : decode cJ5_ensureCapacityInternal_d00df 31 = .ok (.ishl, 1)) h32
  have h28 : Sd E K 28 q_J5_ensureCapacityInternal_d00df_28 := sd_get X (by decide +kernel : decode cJ5_ensureCapacityInternal_d00df 28 = .ok (.getfield 22, 3)) ok_J4 (Nat.le_of_ble_eq_true rfl) wd_329 h31
  have h27 : Sd E K 27 q_J5_ensureCapacityInternal_d00df_27 := sd_aload_n X (by decide +kernel : decode cJ5_ensureCapacityInternal_d00df 27 = .ok (.aload_n 0, 1)) rfl h28
  have h24 : Sd E K 24 q_J5_ensureCapacityInternal_d00df_24 := sd_callP (n := 1) (ci := 0) X (ct_J5_newCapacity_0f7a4 G) (by decide +kernel : decode cJ5_ensureCapacityInternal_d00df 24 = .ok (.invokevirtual 104, 3)) wd_756 wd_753 wd_1135 G.sl_newCapacity wd_755 wd_35 (by decide +kernel) (Or.inl ⟨by decide, _, _, rfl⟩) ⟨Nat.le_of_ble_eq_true rfl, Nat.le_of_ble_eq_true rfl⟩ h27
  have h23 : Sd E K 23 q_J5_ensureCapacityInternal_d00df_23 := sd_iload_n X (by decide +kernel : decode cJ5_ensureCapacityInternal_d00df 23 = .ok (.iload_n 1, 1)) rfl h24
  have h22 : Sd E K 22 q_J5_ensureCapacityInternal_d00df_22 := sd_aload_n X (by decide +kernel : decode cJ5_ensureCapacityInternal_d00df 22 = .ok (.aload_n 0, 1)) rfl h23
  have h19 : Sd E K 19 q_J5_ensureCapacityInternal_d00df_19 := sd_get X (by decide +kernel : decode cJ5_ensureCapacityInternal_d00df 19 = .ok (.getfield 15, 3)) ok_J4 (Nat.le_of_ble_eq_true rfl) wd_328 h22
  have h18 : Sd E K 18 q_J5_ensureCapacityInternal_d00df_18 := sd_aload_n X (by decide +kernel : decode cJ5_ensureCapacityInternal_d00df 18 = .ok (.aload_n 0, 1)) rfl h19
  have h17 : Sd E K 17 q_J5_ensureCapacityInternal_d00df_17 := sd_aload_n X (by decide +kernel : decode cJ5_ensureCapacityInternal_d00df 17 = .ok (.aload_n 0, 1)) rfl h18
  have h14 : Sd E K 14 q_J5_ensureCapacityInternal_d00df_14 := sd_if_le X (by decide +kernel : decode cJ5_ensureCapacityInternal_d00df 14 = .ok (.ifCond .le 24, 3)) (by decide) h38 h17
  have h13 : Sd E K 13 q_J5_ensureCapacityInternal_d00df_13 := sd_isub X (by decide +kernel : decode cJ5_ensureCapacityInternal_d00df 13 = .ok (.isub, 1)) h14
  have h12 : Sd E K 12 q_J5_ensureCapacityInternal_d00df_12 := sd_iload_n X (by decide +kernel : decode cJ5_ensureCapacityInternal_d00df 12 = .ok (.iload_n 2, 1)) rfl h13
  have h11 : Sd E K 11 q_J5_ensureCapacityInternal_d00df_11 := sd_iload_n X (by decide +kernel : decode cJ5_ensureCapacityInternal_d00df 11 = .ok (.iload_n 1, 1)) rfl h12
  have h10 : Sd E K 10 q_J5_ensureCapacityInternal_d00df_10 := sd_istore_n X (by decide +kernel : decode cJ5_ensureCapacityInternal_d00df 10 = .ok (.istore_n 2, 1)) rfl h11
  have h9 : Sd E K 9 q_J5_ensureCapacityInternal_d00df_9 := sd_ishr X (by decide +kernel : decode cJ5_ensureCapacityInternal_d00df 9 = .ok (.ishr, 1)) h10
  have h6 : Sd E K 6 q_J5_ensureCapacityInternal_d00df_6 := sd_get X (by decide +kernel : decode cJ5_ensureCapacityInternal_d00df 6 = .ok (.getfield 22, 3)) ok_J4 (Nat.le_of_ble_eq_true rfl) wd_329 h9
  have h5 : Sd E K 5 q_J5_ensureCapacityInternal_d00df_5 := sd_aload_n X (by decide +kernel : decode cJ5_ensureCapacityInternal_d00df 5 = .ok (.aload_n 0, 1)) rfl h6
  have h4 : Sd E K 4 q_J5_ensureCapacityInternal_d00df_4 := sd_alen X (by decide +kernel : decode cJ5_ensureCapacityInternal_d00df 4 = .ok (.arraylength, 1)) h5
  have h1 : Sd E K 1 q_J5_ensureCapacityInternal_d00df_1 := sd_get X (by decide +kernel : decode cJ5_ensureCapacityInternal_d00df 1 = .ok (.getfield 15, 3)) ok_J4 (Nat.le_of_ble_eq_true rfl) wd_328 h4
  have h0 : Sd E K 0 q_J5_ensureCapacityInternal_d00df_0 := sd_aload_n X (by decide +kernel : decode cJ5_ensureCapacityInternal_d00df 0 = .ok (.aload_n 0, 1)) rfl h1
  exact h0
set_option maxHeartbeats 4000000 in
set_option maxRecDepth 100000 in
theorem ct_J5_ensureCapacityInternal_d00df {s0 : State} {D : va_G} {ids : Nat → ClassId} {V : Nat → Nat} {l : Launch} (G : GG s0 D ids V) : CT s0 D ids l yJ5_ensureCapacityInternal_d00df cJ5_ensureCapacityInternal_d00df 3 none rm_J5_ensureCapacityInternal_d00df Sp_J5_ensureCapacityInternal_d00df := CT.of (by decide +kernel) G.k (by
  rintro as z f K E ⟨a, v, w, m, L, rfl, hm1, hm2, ⟨cap, lt, b, i1, i2, i3, i4, i5, i6, i7, i8, i9, i10, i11, i12⟩, hK⟩ X
  refine ⟨Nat.le_of_ble_eq_true rfl, by simp [Value.category], t_J5_ensureCapacityInternal_d00df G X _ _ _ _ ?_⟩
  have hcap : cap < 1000 := by omega
  simp (disch := omega) only [q_J5_ensureCapacityInternal_d00df_0, q_J5_ensureCapacityInternal_d00df_1, q_J5_ensureCapacityInternal_d00df_4, q_J5_ensureCapacityInternal_d00df_5, q_J5_ensureCapacityInternal_d00df_6, q_J5_ensureCapacityInternal_d00df_9, q_J5_ensureCapacityInternal_d00df_10, q_J5_ensureCapacityInternal_d00df_11, q_J5_ensureCapacityInternal_d00df_12, q_J5_ensureCapacityInternal_d00df_13, q_J5_ensureCapacityInternal_d00df_14, q_J5_ensureCapacityInternal_d00df_17, q_J5_ensureCapacityInternal_d00df_18, q_J5_ensureCapacityInternal_d00df_19, q_J5_ensureCapacityInternal_d00df_22, q_J5_ensureCapacityInternal_d00df_23, q_J5_ensureCapacityInternal_d00df_24, q_J5_ensureCapacityInternal_d00df_27, q_J5_ensureCapacityInternal_d00df_28, q_J5_ensureCapacityInternal_d00df_31, q_J5_ensureCapacityInternal_d00df_32, q_J5_ensureCapacityInternal_d00df_35, q_J5_ensureCapacityInternal_d00df_38, xpush, xiload, xaload, xlload, xfload, xdload, lkill, xistore, xastore, xfstore, xlstore, xdstore, xiinc, xbin, xdiv, xun, xlbin, xi2l, xi2f, xi2d, xlcmp, xfcmp, xdcmp, xfdiv, xddiv, c1, xdup, xpop, xdup_x1, xdup2, xif, xicmp, xtab, xtabL, xget, xput, xald, xast, xalen, xnew, xnewa, c1s, recvOk, xcall, kont, xret, xlret, xfret, xdret, xaret, xvret, xs, xnewq, xastq, xcopy, xcopyF, xobj, xmax, xmin, xdead, xpushq, xmna, ls0, List.map_cons, List.map_nil, List.length_cons, List.length_nil, List.replicate, List.append_nil, List.cons_append, List.nil_append, List.getElem?_cons_zero, List.getElem?_cons_succ, List.getElem?_nil, List.set_cons_zero, List.set_cons_succ, List.take_succ_cons, List.take_zero, List.drop_succ_cons, List.drop_zero, List.reverse_cons, List.reverse_nil, List.sum_cons, List.sum_nil, Value.category, Option.toList_some, Option.toList_none, Nat.reduceAdd, Nat.reduceSub, Nat.reduceLT, Nat.reduceLeDiff, Nat.zero_add, Nat.le_refl, true_and, and_true, Nat.sub_zero, Nat.zero_lt_succ, Nat.zero_le, Nat.not_lt_zero, Nat.reduceEqDiff, Nat.one_ne_zero, nI_toInt, Int.reduceEq, Int.reduceAdd, Int.reduceLT, Int.reduceLE, Int.cast_ofNat_Int, reduceIte, or_false, false_or, eq_self, or_true, true_or, or_self, nI_clamp, vp_in_nI, nI_ltI, nI_leI, nI_eq, nI_add, nI_zero9, nI_nlt0, nI_le0, nI_lt0, arG, va_rf, not_false_eq_true, not_true_eq_false, false_implies, true_implies, implies_true, ne_eq, okv_int, okv_z0, okv_z1, okv_zN, okv_ref, okv_arr, okv_null, vn_z0, vn_z1, vn_zN, nr_int, nr_z, va_up_self, up_fr, rw1_j, rw1_up, i1, i2, sr0, sl0, nI_subL]
  refine ⟨fun q => hK z f v cap lt b (by omega) ⟨i1, i2, i3, i4, i5, i6, i7, i8, i9, i10, i11, i12⟩ q (Or.inl rfl) (fun q _ _ _ => rfl), fun q => ?_⟩
  refine ⟨a, v, w, z, m, cap, lt, _, b, rfl, i1, i2, by omega, by omega, by omega, by omega, ?_⟩
  simp (disch := omega) only [q_J5_ensureCapacityInternal_d00df_0, q_J5_ensureCapacityInternal_d00df_1, q_J5_ensureCapacityInternal_d00df_4, q_J5_ensureCapacityInternal_d00df_5, q_J5_ensureCapacityInternal_d00df_6, q_J5_ensureCapacityInternal_d00df_9, q_J5_ensureCapacityInternal_d00df_10, q_J5_ensureCapacityInternal_d00df_11, q_J5_ensureCapacityInternal_d00df_12, q_J5_ensureCapacityInternal_d00df_13, q_J5_ensureCapacityInternal_d00df_14, q_J5_ensureCapacityInternal_d00df_17, q_J5_ensureCapacityInternal_d00df_18, q_J5_ensureCapacityInternal_d00df_19, q_J5_ensureCapacityInternal_d00df_22, q_J5_ensureCapacityInternal_d00df_23, q_J5_ensureCapacityInternal_d00df_24, q_J5_ensureCapacityInternal_d00df_27, q_J5_ensureCapacityInternal_d00df_28, q_J5_ensureCapacityInternal_d00df_31, q_J5_ensureCapacityInternal_d00df_32, q_J5_ensureCapacityInternal_d00df_35, q_J5_ensureCapacityInternal_d00df_38, xpush, xiload, xaload, xlload, xfload, xdload, lkill, xistore, xastore, xfstore, xlstore, xdstore, xiinc, xbin, xdiv, xun, xlbin, xi2l, xi2f, xi2d, xlcmp, xfcmp, xdcmp, xfdiv, xddiv, c1, xdup, xpop, xdup_x1, xdup2, xif, xicmp, xtab, xtabL, xget, xput, xald, xast, xalen, xnew, xnewa, c1s, recvOk, xcall, kont, xret, xlret, xfret, xdret, xaret, xvret, xs, xnewq, xastq, xcopy, xcopyF, xobj, xmax, xmin, xdead, xpushq, xmna, ls0, List.map_cons, List.map_nil, List.length_cons, List.length_nil, List.replicate, List.append_nil, List.cons_append, List.nil_append, List.getElem?_cons_zero, List.getElem?_cons_succ, List.getElem?_nil, List.set_cons_zero, List.set_cons_succ, List.take_succ_cons, List.take_zero, List.drop_succ_cons, List.drop_zero, List.reverse_cons, List.reverse_nil, List.sum_cons, List.sum_nil, Value.category, Option.toList_some, Option.toList_none, Nat.reduceAdd, Nat.reduceSub, Nat.reduceLT, Nat.reduceLeDiff, Nat.zero_add, Nat.le_refl, true_and, and_true, Nat.sub_zero, Nat.zero_lt_succ, Nat.zero_le, Nat.not_lt_zero, Nat.reduceEqDiff, Nat.one_ne_zero, nI_toInt, Int.reduceEq, Int.reduceAdd, Int.reduceLT, Int.reduceLE, Int.cast_ofNat_Int, reduceIte, or_false, false_or, eq_self, or_true, true_or, or_self, nI_clamp, vp_in_nI, nI_ltI, nI_leI, nI_eq, nI_add, nI_zero9, nI_nlt0, nI_le0, nI_lt0, arG, va_rf, not_false_eq_true, not_true_eq_false, false_implies, true_implies, implies_true, ne_eq, okv_int, okv_z0, okv_z1, okv_zN, okv_ref, okv_arr, okv_null, vn_z0, vn_z1, vn_zN, nr_int, nr_z, va_up_self, up_fr, rw1_j, rw1_up, i1, i2, sr0, sl0]
  refine ⟨Nat.le_of_ble_eq_true rfl, Nat.le_of_ble_eq_true rfl, v, _, cap, b, rfl, i2, by omega, by omega, i8, i12, fun b' hb1 hb2 => ?_⟩
  simp (disch := omega) only [q_J5_ensureCapacityInternal_d00df_0, q_J5_ensureCapacityInternal_d00df_1, q_J5_ensureCapacityInternal_d00df_4, q_J5_ensureCapacityInternal_d00df_5, q_J5_ensureCapacityInternal_d00df_6, q_J5_ensureCapacityInternal_d00df_9, q_J5_ensureCapacityInternal_d00df_10, q_J5_ensureCapacityInternal_d00df_11, q_J5_ensureCapacityInternal_d00df_12, q_J5_ensureCapacityInternal_d00df_13, q_J5_ensureCapacityInternal_d00df_14, q_J5_ensureCapacityInternal_d00df_17, q_J5_ensureCapacityInternal_d00df_18, q_J5_ensureCapacityInternal_d00df_19, q_J5_ensureCapacityInternal_d00df_22, q_J5_ensureCapacityInternal_d00df_23, q_J5_ensureCapacityInternal_d00df_24, q_J5_ensureCapacityInternal_d00df_27, q_J5_ensureCapacityInternal_d00df_28, q_J5_ensureCapacityInternal_d00df_31, q_J5_ensureCapacityInternal_d00df_32, q_J5_ensureCapacityInternal_d00df_35, q_J5_ensureCapacityInternal_d00df_38, xpush, xiload, xaload, xlload, xfload, xdload, lkill, xistore, xastore, xfstore, xlstore, xdstore, xiinc, xbin, xdiv, xun, xlbin, xi2l, xi2f, xi2d, xlcmp, xfcmp, xdcmp, xfdiv, xddiv, c1, xdup, xpop, xdup_x1, xdup2, xif, xicmp, xtab, xtabL, xget, xput, xald, xast, xalen, xnew, xnewa, c1s, recvOk, xcall, kont, xret, xlret, xfret, xdret, xaret, xvret, xs, xnewq, xastq, xcopy, xcopyF, xobj, xmax, xmin, xdead, xpushq, xmna, ls0, List.map_cons, List.map_nil, List.length_cons, List.length_nil, List.replicate, List.append_nil, List.cons_append, List.nil_append, List.getElem?_cons_zero, List.getElem?_cons_succ, List.getElem?_nil, List.set_cons_zero, List.set_cons_succ, List.take_succ_cons, List.take_zero, List.drop_succ_cons, List.drop_zero, List.reverse_cons, List.reverse_nil, List.sum_cons, List.sum_nil, Value.category, Option.toList_some, Option.toList_none, Nat.reduceAdd, Nat.reduceSub, Nat.reduceLT, Nat.reduceLeDiff, Nat.zero_add, Nat.le_refl, true_and, and_true, Nat.sub_zero, Nat.zero_lt_succ, Nat.zero_le, Nat.not_lt_zero, Nat.reduceEqDiff, Nat.one_ne_zero, nI_toInt, Int.reduceEq, Int.reduceAdd, Int.reduceLT, Int.reduceLE, Int.cast_ofNat_Int, reduceIte, or_false, false_or, eq_self, or_true, true_or, or_self, nI_clamp, vp_in_nI, nI_ltI, nI_leI, nI_eq, nI_add, nI_zero9, nI_nlt0, nI_le0, nI_lt0, arG, va_rf, not_false_eq_true, not_true_eq_false, false_implies, true_implies, implies_true, ne_eq, okv_int, okv_z0, okv_z1, okv_zN, okv_ref, okv_arr, okv_null, vn_z0, vn_z1, vn_zN, nr_int, nr_z, va_up_self, up_fr, rw1_j, rw1_up, i1]
  have e1 : va_up (va_up f z (some (.inl (0, cap + (cap + 2), .inl (rw1 b'))))) a (some (.inr (0, [.ref z, .int (nI 0), .int (nI lt), .int (nI L.length)]))) a = some (.inr (0, [.ref z, .int (nI 0), .int (nI lt), .int (nI L.length)])) := va_up_self _ _ _
  have e2 : va_up (va_up f z (some (.inl (0, cap + (cap + 2), .inl (rw1 b'))))) a (some (.inr (0, [.ref z, .int (nI 0), .int (nI lt), .int (nI L.length)]))) z = some (.inl (0, cap + (cap + 2), .inl (rw1 b'))) := (up_fr (by omega)).trans (va_up_self _ _ _)
  refine hK _ _ z (cap + (cap + 2)) lt b' (by omega) ⟨e1, e2, by omega, by omega, i5, by omega, by omega, by omega, i9, by omega, fun j hj => (hb1 j (by omega)).trans (i11 j hj), hb2⟩ (by omega) (Or.inr (Nat.le_refl _)) (fun q g1 g2 g3 => ?_)
  simp (disch := omega) only [up_fr])
