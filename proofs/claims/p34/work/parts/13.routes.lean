/-! Routes, Roads: reads -/
abbrev Sp_X9_isKnown : Spt := fun as z f K => ∃ (a i j : Nat) (M : Cm), as = [.ref a, .int (nI i), .int (nI j)] ∧ i < 8 ∧ j < 8 ∧ M 2 i j < 1048576 ∧ isRt f a M ∧ K (some (.int (nI (if 0 < M 2 i j then 1 else 0)))) z f
def rm_X9_isKnown : Room := { frames := 0, cells := 0, slots := 0, locals := 0 }
def q_X9_isKnown_16 (ls : Ls) (st : List Value) (z : Zz) (f : Fm) (E : Ej) (R : Kr) : Prop := xret .boolean ls st z f E R
def q_X9_isKnown_15 (ls : Ls) (st : List Value) (z : Zz) (f : Fm) (E : Ej) (R : Kr) : Prop := xpush (.int (nI 0)) q_X9_isKnown_16 ls st z f E R
def q_X9_isKnown_11 (ls : Ls) (st : List Value) (z : Zz) (f : Fm) (E : Ej) (R : Kr) : Prop := xpush (.int (nI 1)) q_X9_isKnown_16 ls st z f E R
def q_X9_isKnown_8 (ls : Ls) (st : List Value) (z : Zz) (f : Fm) (E : Ej) (R : Kr) : Prop := xif (fun x => x ≤ 0) q_X9_isKnown_15 q_X9_isKnown_11 ls st z f E R
def q_X9_isKnown_7 (ls : Ls) (st : List Value) (z : Zz) (f : Fm) (E : Ej) (R : Kr) : Prop := xald 1 7 q_X9_isKnown_8 ls st z f E R
def q_X9_isKnown_6 (ls : Ls) (st : List Value) (z : Zz) (f : Fm) (E : Ej) (R : Kr) : Prop := xiload 2 q_X9_isKnown_7 ls st z f E R
def q_X9_isKnown_5 (ls : Ls) (st : List Value) (z : Zz) (f : Fm) (E : Ej) (R : Kr) : Prop := xald 4 4 q_X9_isKnown_6 ls st z f E R
def q_X9_isKnown_4 (ls : Ls) (st : List Value) (z : Zz) (f : Fm) (E : Ej) (R : Kr) : Prop := xiload 1 q_X9_isKnown_5 ls st z f E R
def q_X9_isKnown_1 (ls : Ls) (st : List Value) (z : Zz) (f : Fm) (E : Ej) (R : Kr) : Prop := xget 8 0 q_X9_isKnown_4 ls st z f E R
def q_X9_isKnown_0 (ls : Ls) (st : List Value) (z : Zz) (f : Fm) (E : Ej) (R : Kr) : Prop := xaload 0 q_X9_isKnown_1 ls st z f E R
set_option maxRecDepth 100000 in
theorem t_X9_isKnown {s0 : State} {D : va_G} {ids : Nat → ClassId} {V : Nat → Nat} {l : Launch} {K : Kr} {E : Ej} (G : GG s0 D ids V) (X : EnX s0 D ids l RX9 cX9_isKnown 3 (some .boolean) "isKnown" rm_X9_isKnown K E) : Sd E K 0 q_X9_isKnown_0 := by
  have h16 : Sd E K 16 q_X9_isKnown_16 := sd_ret X (by decide +kernel : decode cX9_isKnown 16 = .ok (.ireturn, 1))
  have h15 : Sd E K 15 q_X9_isKnown_15 := sd_iconst X (by decide +kernel : decode cX9_isKnown 15 = .ok (.iconst 0, 1)) (by decide +kernel) h16
  have h12 : Sd E K 12 q_X9_isKnown_16 := sd_goto X (by decide +kernel : decode cX9_isKnown 12 = .ok (.goto 4, 3)) (by decide) h16
  have h11 : Sd E K 11 q_X9_isKnown_11 := sd_iconst X (by decide +kernel : decode cX9_isKnown 11 = .ok (.iconst 1, 1)) (by decide +kernel) h12
  have h8 : Sd E K 8 q_X9_isKnown_8 := sd_if_le X (by decide +kernel : decode cX9_isKnown 8 = .ok (.ifCond .le 7, 3)) (by decide) h15 h11
  have h7 : Sd E K 7 q_X9_isKnown_7 := sd_iald X (by decide +kernel : decode cX9_isKnown 7 = .ok (.iaload, 1)) h8
  have h6 : Sd E K 6 q_X9_isKnown_6 := sd_iload_n X (by decide +kernel : decode cX9_isKnown 6 = .ok (.iload_n 2, 1)) rfl h7
  have h5 : Sd E K 5 q_X9_isKnown_5 := sd_aald X rfl (by decide +kernel : decode cX9_isKnown 5 = .ok (.aaload, 1)) h6
  have h4 : Sd E K 4 q_X9_isKnown_4 := sd_iload_n X (by decide +kernel : decode cX9_isKnown 4 = .ok (.iload_n 1, 1)) rfl h5
  have h1 : Sd E K 1 q_X9_isKnown_1 := sd_get X (by decide +kernel : decode cX9_isKnown 1 = .ok (.getfield 11, 3)) ok_X9 (Nat.le_of_ble_eq_true rfl) wd_95 h4
  have h0 : Sd E K 0 q_X9_isKnown_0 := sd_aload_n X (by decide +kernel : decode cX9_isKnown 0 = .ok (.aload_n 0, 1)) rfl h1
  exact h0
set_option maxHeartbeats 4000000 in
set_option maxRecDepth 100000 in
theorem ct_X9_isKnown {s0 : State} {D : va_G} {ids : Nat → ClassId} {V : Nat → Nat} {l : Launch} (G : GG s0 D ids V) : CT s0 D ids l yX9_isKnown cX9_isKnown 3 (some .boolean) rm_X9_isKnown Sp_X9_isKnown := CT.of (by decide +kernel) G.k (by
  rintro as z f K E ⟨a, i, j, M, rfl, hi, hj, hM, hR, hK⟩ X
  refine ⟨Nat.le_of_ble_eq_true rfl, by simp [Value.category], t_X9_isKnown G X _ _ _ _ ?_⟩
  obtain ⟨h0, ⟨h1, h2⟩, -⟩ := hR
  have h2 := h2 i hi
  simp (disch := omega) only [q_X9_isKnown_0, q_X9_isKnown_1, q_X9_isKnown_4, q_X9_isKnown_5, q_X9_isKnown_6, q_X9_isKnown_7, q_X9_isKnown_8, q_X9_isKnown_11, q_X9_isKnown_15, q_X9_isKnown_16, xpush, xiload, xaload, xlload, xfload, xdload, lkill, xistore, xastore, xfstore, xlstore, xdstore, xiinc, xbin, xdiv, xun, xlbin, xi2l, xi2f, xi2d, xlcmp, xfcmp, xdcmp, xfdiv, xddiv, c1, xdup, xpop, xdup_x1, xdup2, xif, xicmp, xtab, xtabL, xget, xput, xald, xast, xalen, xnew, xnewa, c1s, recvOk, xcall, kont, xret, xlret, xfret, xdret, xaret, xvret, xs, xnewq, xastq, xcopy, xcopyF, xobj, xmax, xmin, xdead, xpushq, xmna, ls0, List.map_cons, List.map_nil, List.length_cons, List.length_nil, List.replicate, List.append_nil, List.cons_append, List.nil_append, List.getElem?_cons_zero, List.getElem?_cons_succ, List.getElem?_nil, List.set_cons_zero, List.set_cons_succ, List.take_succ_cons, List.take_zero, List.drop_succ_cons, List.drop_zero, List.reverse_cons, List.reverse_nil, List.sum_cons, List.sum_nil, Value.category, Option.toList_some, Option.toList_none, Nat.reduceAdd, Nat.reduceSub, Nat.reduceLT, Nat.reduceLeDiff, Nat.zero_add, Nat.le_refl, true_and, and_true, Nat.sub_zero, Nat.zero_lt_succ, Nat.zero_le, Nat.not_lt_zero, Nat.reduceEqDiff, Nat.one_ne_zero, nI_toInt, Int.reduceEq, Int.reduceAdd, Int.reduceLT, Int.reduceLE, Int.cast_ofNat_Int, reduceIte, or_false, false_or, eq_self, or_true, true_or, or_self, nI_clamp, vp_in_nI, nI_ltI, nI_leI, nI_eq, nI_add, nI_zero9, nI_nlt0, nI_le0, nI_lt0, arG, va_rf, not_false_eq_true, not_true_eq_false, false_implies, true_implies, implies_true, ne_eq, okv_int, okv_z0, okv_z1, okv_zN, okv_ref, okv_arr, okv_null, vn_z0, vn_z1, vn_zN, nr_int, nr_z, va_up_self, up_fr, rw1_j, rw1_up, h0, h1, h2, hi, rw1_j]
  refine ⟨fun q => ?_, fun q => ?_⟩
  · rwa [if_neg (by omega)] at hK
  · rwa [if_pos (by omega)] at hK)
abbrev Sp_X9_isOver : Spt := fun as z f K => ∃ (a i j n : Nat) (M : Cm), as = [.ref a, .int (nI i), .int (nI j), .int (nI n)] ∧ i < 8 ∧ j < 8 ∧ n < 1048576 ∧ sm M ∧ isRt f a M ∧ K (some (.int (nI (if 0 < M 2 i j ∧ M 3 i j = n then 1 else 0)))) z f
def rm_X9_isOver : Room := { frames := 0, cells := 0, slots := 0, locals := 0 }
def q_X9_isOver_28 (ls : Ls) (st : List Value) (z : Zz) (f : Fm) (E : Ej) (R : Kr) : Prop := xret .boolean ls st z f E R
def q_X9_isOver_27 (ls : Ls) (st : List Value) (z : Zz) (f : Fm) (E : Ej) (R : Kr) : Prop := xpush (.int (nI 0)) q_X9_isOver_28 ls st z f E R
def q_X9_isOver_23 (ls : Ls) (st : List Value) (z : Zz) (f : Fm) (E : Ej) (R : Kr) : Prop := xpush (.int (nI 1)) q_X9_isOver_28 ls st z f E R
def q_X9_isOver_20 (ls : Ls) (st : List Value) (z : Zz) (f : Fm) (E : Ej) (R : Kr) : Prop := xicmp (fun x y => ¬ x = y) q_X9_isOver_27 q_X9_isOver_23 ls st z f E R
def q_X9_isOver_19 (ls : Ls) (st : List Value) (z : Zz) (f : Fm) (E : Ej) (R : Kr) : Prop := xiload 3 q_X9_isOver_20 ls st z f E R
def q_X9_isOver_18 (ls : Ls) (st : List Value) (z : Zz) (f : Fm) (E : Ej) (R : Kr) : Prop := xald 1 7 q_X9_isOver_19 ls st z f E R
def q_X9_isOver_17 (ls : Ls) (st : List Value) (z : Zz) (f : Fm) (E : Ej) (R : Kr) : Prop := xiload 2 q_X9_isOver_18 ls st z f E R
def q_X9_isOver_16 (ls : Ls) (st : List Value) (z : Zz) (f : Fm) (E : Ej) (R : Kr) : Prop := xald 4 4 q_X9_isOver_17 ls st z f E R
def q_X9_isOver_15 (ls : Ls) (st : List Value) (z : Zz) (f : Fm) (E : Ej) (R : Kr) : Prop := xiload 1 q_X9_isOver_16 ls st z f E R
def q_X9_isOver_12 (ls : Ls) (st : List Value) (z : Zz) (f : Fm) (E : Ej) (R : Kr) : Prop := xget 8 1 q_X9_isOver_15 ls st z f E R
def q_X9_isOver_11 (ls : Ls) (st : List Value) (z : Zz) (f : Fm) (E : Ej) (R : Kr) : Prop := xaload 0 q_X9_isOver_12 ls st z f E R
def q_X9_isOver_8 (ls : Ls) (st : List Value) (z : Zz) (f : Fm) (E : Ej) (R : Kr) : Prop := xif (fun x => x ≤ 0) q_X9_isOver_27 q_X9_isOver_11 ls st z f E R
def q_X9_isOver_7 (ls : Ls) (st : List Value) (z : Zz) (f : Fm) (E : Ej) (R : Kr) : Prop := xald 1 7 q_X9_isOver_8 ls st z f E R
def q_X9_isOver_6 (ls : Ls) (st : List Value) (z : Zz) (f : Fm) (E : Ej) (R : Kr) : Prop := xiload 2 q_X9_isOver_7 ls st z f E R
def q_X9_isOver_5 (ls : Ls) (st : List Value) (z : Zz) (f : Fm) (E : Ej) (R : Kr) : Prop := xald 4 4 q_X9_isOver_6 ls st z f E R
def q_X9_isOver_4 (ls : Ls) (st : List Value) (z : Zz) (f : Fm) (E : Ej) (R : Kr) : Prop := xiload 1 q_X9_isOver_5 ls st z f E R
def q_X9_isOver_1 (ls : Ls) (st : List Value) (z : Zz) (f : Fm) (E : Ej) (R : Kr) : Prop := xget 8 0 q_X9_isOver_4 ls st z f E R
def q_X9_isOver_0 (ls : Ls) (st : List Value) (z : Zz) (f : Fm) (E : Ej) (R : Kr) : Prop := xaload 0 q_X9_isOver_1 ls st z f E R
set_option maxRecDepth 100000 in
theorem t_X9_isOver {s0 : State} {D : va_G} {ids : Nat → ClassId} {V : Nat → Nat} {l : Launch} {K : Kr} {E : Ej} (G : GG s0 D ids V) (X : EnX s0 D ids l RX9 cX9_isOver 4 (some .boolean) "isOver" rm_X9_isOver K E) : Sd E K 0 q_X9_isOver_0 := by
  have h28 : Sd E K 28 q_X9_isOver_28 := sd_ret X (by decide +kernel : decode cX9_isOver 28 = .ok (.ireturn, 1))
  have h27 : Sd E K 27 q_X9_isOver_27 := sd_iconst X (by decide +kernel : decode cX9_isOver 27 = .ok (.iconst 0, 1)) (by decide +kernel) h28
  have h24 : Sd E K 24 q_X9_isOver_28 := sd_goto X (by decide +kernel : decode cX9_isOver 24 = .ok (.goto 4, 3)) (by decide) h28
  have h23 : Sd E K 23 q_X9_isOver_23 := sd_iconst X (by decide +kernel : decode cX9_isOver 23 = .ok (.iconst 1, 1)) (by decide +kernel) h24
  have h20 : Sd E K 20 q_X9_isOver_20 := sd_icmp_ne X (by decide +kernel : decode cX9_isOver 20 = .ok (.if_icmp .ne 7, 3)) (by decide) h27 h23
  have h19 : Sd E K 19 q_X9_isOver_19 := sd_iload_n X (by decide +kernel : decode cX9_isOver 19 = .ok (.iload_n 3, 1)) rfl h20
  have h18 : Sd E K 18 q_X9_isOver_18 := sd_iald X (by decide +kernel : decode cX9_isOver 18 = .ok (.iaload, 1)) h19
  have h17 : Sd E K 17 q_X9_isOver_17 := sd_iload_n X (by decide +kernel : decode cX9_isOver 17 = .ok (.iload_n 2, 1)) rfl h18
  have h16 : Sd E K 16 q_X9_isOver_16 := sd_aald X rfl (by decide +kernel : decode cX9_isOver 16 = .ok (.aaload, 1)) h17
  have h15 : Sd E K 15 q_X9_isOver_15 := sd_iload_n X (by decide +kernel : decode cX9_isOver 15 = .ok (.iload_n 1, 1)) rfl h16
  have h12 : Sd E K 12 q_X9_isOver_12 := sd_get X (by decide +kernel : decode cX9_isOver 12 = .ok (.getfield 16, 3)) ok_X9 (Nat.le_of_ble_eq_true rfl) wd_98 h15
  have h11 : Sd E K 11 q_X9_isOver_11 := sd_aload_n X (by decide +kernel : decode cX9_isOver 11 = .ok (.aload_n 0, 1)) rfl h12
  have h8 : Sd E K 8 q_X9_isOver_8 := sd_if_le X (by decide +kernel : decode cX9_isOver 8 = .ok (.ifCond .le 19, 3)) (by decide) h27 h11
  have h7 : Sd E K 7 q_X9_isOver_7 := sd_iald X (by decide +kernel : decode cX9_isOver 7 = .ok (.iaload, 1)) h8
  have h6 : Sd E K 6 q_X9_isOver_6 := sd_iload_n X (by decide +kernel : decode cX9_isOver 6 = .ok (.iload_n 2, 1)) rfl h7
  have h5 : Sd E K 5 q_X9_isOver_5 := sd_aald X rfl (by decide +kernel : decode cX9_isOver 5 = .ok (.aaload, 1)) h6
  have h4 : Sd E K 4 q_X9_isOver_4 := sd_iload_n X (by decide +kernel : decode cX9_isOver 4 = .ok (.iload_n 1, 1)) rfl h5
  have h1 : Sd E K 1 q_X9_isOver_1 := sd_get X (by decide +kernel : decode cX9_isOver 1 = .ok (.getfield 11, 3)) ok_X9 (Nat.le_of_ble_eq_true rfl) wd_95 h4
  have h0 : Sd E K 0 q_X9_isOver_0 := sd_aload_n X (by decide +kernel : decode cX9_isOver 0 = .ok (.aload_n 0, 1)) rfl h1
  exact h0
set_option maxHeartbeats 4000000 in
set_option maxRecDepth 100000 in
theorem ct_X9_isOver {s0 : State} {D : va_G} {ids : Nat → ClassId} {V : Nat → Nat} {l : Launch} (G : GG s0 D ids V) : CT s0 D ids l yX9_isOver cX9_isOver 4 (some .boolean) rm_X9_isOver Sp_X9_isOver := CT.of (by decide +kernel) G.k (by
  rintro as z f K E ⟨a, i, j, n, M, rfl, hi, hj, hn, hS, hR, hK⟩ X
  refine ⟨Nat.le_of_ble_eq_true rfl, by simp [Value.category], t_X9_isOver G X _ _ _ _ ?_⟩
  obtain ⟨h0, ⟨h1, h2⟩, ⟨h3, h4⟩, -⟩ := hR
  have h2 := h2 i hi
  have h4 := h4 i hi
  have b1 := hS.1 2 i j (by omega)
  have b2 := hS.1 3 i j (by omega)
  simp (disch := omega) only [q_X9_isOver_0, q_X9_isOver_1, q_X9_isOver_4, q_X9_isOver_5, q_X9_isOver_6, q_X9_isOver_7, q_X9_isOver_8, q_X9_isOver_11, q_X9_isOver_12, q_X9_isOver_15, q_X9_isOver_16, q_X9_isOver_17, q_X9_isOver_18, q_X9_isOver_19, q_X9_isOver_20, q_X9_isOver_23, q_X9_isOver_27, q_X9_isOver_28, xpush, xiload, xaload, xlload, xfload, xdload, lkill, xistore, xastore, xfstore, xlstore, xdstore, xiinc, xbin, xdiv, xun, xlbin, xi2l, xi2f, xi2d, xlcmp, xfcmp, xdcmp, xfdiv, xddiv, c1, xdup, xpop, xdup_x1, xdup2, xif, xicmp, xtab, xtabL, xget, xput, xald, xast, xalen, xnew, xnewa, c1s, recvOk, xcall, kont, xret, xlret, xfret, xdret, xaret, xvret, xs, xnewq, xastq, xcopy, xcopyF, xobj, xmax, xmin, xdead, xpushq, xmna, ls0, List.map_cons, List.map_nil, List.length_cons, List.length_nil, List.replicate, List.append_nil, List.cons_append, List.nil_append, List.getElem?_cons_zero, List.getElem?_cons_succ, List.getElem?_nil, List.set_cons_zero, List.set_cons_succ, List.take_succ_cons, List.take_zero, List.drop_succ_cons, List.drop_zero, List.reverse_cons, List.reverse_nil, List.sum_cons, List.sum_nil, Value.category, Option.toList_some, Option.toList_none, Nat.reduceAdd, Nat.reduceSub, Nat.reduceLT, Nat.reduceLeDiff, Nat.zero_add, Nat.le_refl, true_and, and_true, Nat.sub_zero, Nat.zero_lt_succ, Nat.zero_le, Nat.not_lt_zero, Nat.reduceEqDiff, Nat.one_ne_zero, nI_toInt, Int.reduceEq, Int.reduceAdd, Int.reduceLT, Int.reduceLE, Int.cast_ofNat_Int, reduceIte, or_false, false_or, eq_self, or_true, true_or, or_self, nI_clamp, vp_in_nI, nI_ltI, nI_leI, nI_eq, nI_add, nI_zero9, nI_nlt0, nI_le0, nI_lt0, arG, va_rf, not_false_eq_true, not_true_eq_false, false_implies, true_implies, implies_true, ne_eq, okv_int, okv_z0, okv_z1, okv_zN, okv_ref, okv_arr, okv_null, vn_z0, vn_z1, vn_zN, nr_int, nr_z, va_up_self, up_fr, rw1_j, rw1_up, h0, h1, h2, h3, h4, hi, rw1_j]
  refine ⟨fun q => ?_, fun q => ⟨fun q2 => ?_, fun q2 => ?_⟩⟩
  · rwa [if_neg (by omega)] at hK
  · rwa [if_neg (by omega)] at hK
  · rwa [if_pos (by omega)] at hK)
abbrev Sp_X9_isNoneOrLonger : Spt := fun as z f K => ∃ (a i j n : Nat) (M : Cm), as = [.ref a, .int (nI i), .int (nI j), .int (nI n)] ∧ i < 8 ∧ j < 8 ∧ n < 4194304 ∧ sm M ∧ isRt f a M ∧ K (some (.int (nI (if M 2 i j = 0 ∨ n < M 2 i j then 1 else 0)))) z f
def rm_X9_isNoneOrLonger : Room := { frames := 0, cells := 0, slots := 0, locals := 0 }
def q_X9_isNoneOrLonger_28 (ls : Ls) (st : List Value) (z : Zz) (f : Fm) (E : Ej) (R : Kr) : Prop := xret .boolean ls st z f E R
def q_X9_isNoneOrLonger_23 (ls : Ls) (st : List Value) (z : Zz) (f : Fm) (E : Ej) (R : Kr) : Prop := xpush (.int (nI 1)) q_X9_isNoneOrLonger_28 ls st z f E R
def q_X9_isNoneOrLonger_27 (ls : Ls) (st : List Value) (z : Zz) (f : Fm) (E : Ej) (R : Kr) : Prop := xpush (.int (nI 0)) q_X9_isNoneOrLonger_28 ls st z f E R
def q_X9_isNoneOrLonger_20 (ls : Ls) (st : List Value) (z : Zz) (f : Fm) (E : Ej) (R : Kr) : Prop := xicmp (fun x y => x ≤ y) q_X9_isNoneOrLonger_27 q_X9_isNoneOrLonger_23 ls st z f E R
def q_X9_isNoneOrLonger_19 (ls : Ls) (st : List Value) (z : Zz) (f : Fm) (E : Ej) (R : Kr) : Prop := xiload 3 q_X9_isNoneOrLonger_20 ls st z f E R
def q_X9_isNoneOrLonger_18 (ls : Ls) (st : List Value) (z : Zz) (f : Fm) (E : Ej) (R : Kr) : Prop := xald 1 7 q_X9_isNoneOrLonger_19 ls st z f E R
def q_X9_isNoneOrLonger_17 (ls : Ls) (st : List Value) (z : Zz) (f : Fm) (E : Ej) (R : Kr) : Prop := xiload 2 q_X9_isNoneOrLonger_18 ls st z f E R
def q_X9_isNoneOrLonger_16 (ls : Ls) (st : List Value) (z : Zz) (f : Fm) (E : Ej) (R : Kr) : Prop := xald 4 4 q_X9_isNoneOrLonger_17 ls st z f E R
def q_X9_isNoneOrLonger_15 (ls : Ls) (st : List Value) (z : Zz) (f : Fm) (E : Ej) (R : Kr) : Prop := xiload 1 q_X9_isNoneOrLonger_16 ls st z f E R
def q_X9_isNoneOrLonger_12 (ls : Ls) (st : List Value) (z : Zz) (f : Fm) (E : Ej) (R : Kr) : Prop := xget 8 0 q_X9_isNoneOrLonger_15 ls st z f E R
def q_X9_isNoneOrLonger_11 (ls : Ls) (st : List Value) (z : Zz) (f : Fm) (E : Ej) (R : Kr) : Prop := xaload 0 q_X9_isNoneOrLonger_12 ls st z f E R
def q_X9_isNoneOrLonger_8 (ls : Ls) (st : List Value) (z : Zz) (f : Fm) (E : Ej) (R : Kr) : Prop := xif (fun x => x = 0) q_X9_isNoneOrLonger_23 q_X9_isNoneOrLonger_11 ls st z f E R
def q_X9_isNoneOrLonger_7 (ls : Ls) (st : List Value) (z : Zz) (f : Fm) (E : Ej) (R : Kr) : Prop := xald 1 7 q_X9_isNoneOrLonger_8 ls st z f E R
def q_X9_isNoneOrLonger_6 (ls : Ls) (st : List Value) (z : Zz) (f : Fm) (E : Ej) (R : Kr) : Prop := xiload 2 q_X9_isNoneOrLonger_7 ls st z f E R
def q_X9_isNoneOrLonger_5 (ls : Ls) (st : List Value) (z : Zz) (f : Fm) (E : Ej) (R : Kr) : Prop := xald 4 4 q_X9_isNoneOrLonger_6 ls st z f E R
def q_X9_isNoneOrLonger_4 (ls : Ls) (st : List Value) (z : Zz) (f : Fm) (E : Ej) (R : Kr) : Prop := xiload 1 q_X9_isNoneOrLonger_5 ls st z f E R
def q_X9_isNoneOrLonger_1 (ls : Ls) (st : List Value) (z : Zz) (f : Fm) (E : Ej) (R : Kr) : Prop := xget 8 0 q_X9_isNoneOrLonger_4 ls st z f E R
def q_X9_isNoneOrLonger_0 (ls : Ls) (st : List Value) (z : Zz) (f : Fm) (E : Ej) (R : Kr) : Prop := xaload 0 q_X9_isNoneOrLonger_1 ls st z f E R
set_option maxRecDepth 100000 in
theorem t_X9_isNoneOrLonger {s0 : State} {D : va_G} {ids : Nat → ClassId} {V : Nat → Nat} {l : Launch} {K : Kr} {E : Ej} (G : GG s0 D ids V) (X : EnX s0 D ids l RX9 cX9_isNoneOrLonger 4 (some .boolean) "isNoneOrLonger" rm_X9_isNoneOrLonger K E) : Sd E K 0 q_X9_isNoneOrLonger_0 := by
  have h28 : Sd E K 28 q_X9_isNoneOrLonger_28 := sd_ret X (by decide +kernel : decode cX9_isNoneOrLonger 28 = .ok (.ireturn, 1))
  have h24 : Sd E K 24 q_X9_isNoneOrLonger_28 := sd_goto X (by decide +kernel : decode cX9_isNoneOrLonger 24 = .ok (.goto 4, 3)) (by decide) h28
  have h23 : Sd E K 23 q_X9_isNoneOrLonger_23 := sd_iconst X (by decide +kernel : decode cX9_isNoneOrLonger 23 = .ok (.iconst 1, 1)) (by decide +kernel) h24
  have h27 : Sd E K 27 q_X9_isNoneOrLonger_27 := sd_iconst X (by decide +kernel : decode cX9_isNoneOrLonger 27 = .ok (.iconst 0, 1)) (by decide +kernel) h28
  have h20 : Sd E K 20 q_X9_isNoneOrLonger_20 := sd_icmp_le X (by decide +kernel : decode cX9_isNoneOrLonger 20 = .ok (.if_icmp .le 7, 3)) (by decide) h27 h23
  have h19 : Sd E K 19 q_X9_isNoneOrLonger_19 := sd_iload_n X (by decide +kernel : decode cX9_isNoneOrLonger 19 = .ok (.iload_n 3, 1)) rfl h20
  have h18 : Sd E K 18 q_X9_isNoneOrLonger_18 := sd_iald X (by decide +kernel : decode cX9_isNoneOrLonger 18 = .ok (.iaload, 1)) h19
  have h17 : Sd E K 17 q_X9_isNoneOrLonger_17 := sd_iload_n X (by decide +kernel : decode cX9_isNoneOrLonger 17 = .ok (.iload_n 2, 1)) rfl h18
  have h16 : Sd E K 16 q_X9_isNoneOrLonger_16 := sd_aald X rfl (by decide +kernel : decode cX9_isNoneOrLonger 16 = .ok (.aaload, 1)) h17
  have h15 : Sd E K 15 q_X9_isNoneOrLonger_15 := sd_iload_n X (by decide +kernel : decode cX9_isNoneOrLonger 15 = .ok (.iload_n 1, 1)) rfl h16
  have h12 : Sd E K 12 q_X9_isNoneOrLonger_12 := sd_get X (by decide +kernel : decode cX9_isNoneOrLonger 12 = .ok (.getfield 11, 3)) ok_X9 (Nat.le_of_ble_eq_true rfl) wd_95 h15
  have h11 : Sd E K 11 q_X9_isNoneOrLonger_11 := sd_aload_n X (by decide +kernel : decode cX9_isNoneOrLonger 11 = .ok (.aload_n 0, 1)) rfl h12
  have h8 : Sd E K 8 q_X9_isNoneOrLonger_8 := sd_if_eq X (by decide +kernel : decode cX9_isNoneOrLonger 8 = .ok (.ifCond .eq 15, 3)) (by decide) h23 h11
  have h7 : Sd E K 7 q_X9_isNoneOrLonger_7 := sd_iald X (by decide +kernel : decode cX9_isNoneOrLonger 7 = .ok (.iaload, 1)) h8
  have h6 : Sd E K 6 q_X9_isNoneOrLonger_6 := sd_iload_n X (by decide +kernel : decode cX9_isNoneOrLonger 6 = .ok (.iload_n 2, 1)) rfl h7
  have h5 : Sd E K 5 q_X9_isNoneOrLonger_5 := sd_aald X rfl (by decide +kernel : decode cX9_isNoneOrLonger 5 = .ok (.aaload, 1)) h6
  have h4 : Sd E K 4 q_X9_isNoneOrLonger_4 := sd_iload_n X (by decide +kernel : decode cX9_isNoneOrLonger 4 = .ok (.iload_n 1, 1)) rfl h5
  have h1 : Sd E K 1 q_X9_isNoneOrLonger_1 := sd_get X (by decide +kernel : decode cX9_isNoneOrLonger 1 = .ok (.getfield 11, 3)) ok_X9 (Nat.le_of_ble_eq_true rfl) wd_95 h4
  have h0 : Sd E K 0 q_X9_isNoneOrLonger_0 := sd_aload_n X (by decide +kernel : decode cX9_isNoneOrLonger 0 = .ok (.aload_n 0, 1)) rfl h1
  exact h0
set_option maxHeartbeats 4000000 in
set_option maxRecDepth 100000 in
theorem ct_X9_isNoneOrLonger {s0 : State} {D : va_G} {ids : Nat → ClassId} {V : Nat → Nat} {l : Launch} (G : GG s0 D ids V) : CT s0 D ids l yX9_isNoneOrLonger cX9_isNoneOrLonger 4 (some .boolean) rm_X9_isNoneOrLonger Sp_X9_isNoneOrLonger := CT.of (by decide +kernel) G.k (by
  rintro as z f K E ⟨a, i, j, n, M, rfl, hi, hj, hn, hS, hR, hK⟩ X
  refine ⟨Nat.le_of_ble_eq_true rfl, by simp [Value.category], t_X9_isNoneOrLonger G X _ _ _ _ ?_⟩
  obtain ⟨h0, ⟨h1, h2⟩, -⟩ := hR
  have h2 := h2 i hi
  have b1 := hS.1 2 i j (by omega)
  simp (disch := omega) only [q_X9_isNoneOrLonger_0, q_X9_isNoneOrLonger_1, q_X9_isNoneOrLonger_4, q_X9_isNoneOrLonger_5, q_X9_isNoneOrLonger_6, q_X9_isNoneOrLonger_7, q_X9_isNoneOrLonger_8, q_X9_isNoneOrLonger_11, q_X9_isNoneOrLonger_12, q_X9_isNoneOrLonger_15, q_X9_isNoneOrLonger_16, q_X9_isNoneOrLonger_17, q_X9_isNoneOrLonger_18, q_X9_isNoneOrLonger_19, q_X9_isNoneOrLonger_20, q_X9_isNoneOrLonger_23, q_X9_isNoneOrLonger_27, q_X9_isNoneOrLonger_28, xpush, xiload, xaload, xlload, xfload, xdload, lkill, xistore, xastore, xfstore, xlstore, xdstore, xiinc, xbin, xdiv, xun, xlbin, xi2l, xi2f, xi2d, xlcmp, xfcmp, xdcmp, xfdiv, xddiv, c1, xdup, xpop, xdup_x1, xdup2, xif, xicmp, xtab, xtabL, xget, xput, xald, xast, xalen, xnew, xnewa, c1s, recvOk, xcall, kont, xret, xlret, xfret, xdret, xaret, xvret, xs, xnewq, xastq, xcopy, xcopyF, xobj, xmax, xmin, xdead, xpushq, xmna, ls0, List.map_cons, List.map_nil, List.length_cons, List.length_nil, List.replicate, List.append_nil, List.cons_append, List.nil_append, List.getElem?_cons_zero, List.getElem?_cons_succ, List.getElem?_nil, List.set_cons_zero, List.set_cons_succ, List.take_succ_cons, List.take_zero, List.drop_succ_cons, List.drop_zero, List.reverse_cons, List.reverse_nil, List.sum_cons, List.sum_nil, Value.category, Option.toList_some, Option.toList_none, Nat.reduceAdd, Nat.reduceSub, Nat.reduceLT, Nat.reduceLeDiff, Nat.zero_add, Nat.le_refl, true_and, and_true, Nat.sub_zero, Nat.zero_lt_succ, Nat.zero_le, Nat.not_lt_zero, Nat.reduceEqDiff, Nat.one_ne_zero, nI_toInt, Int.reduceEq, Int.reduceAdd, Int.reduceLT, Int.reduceLE, Int.cast_ofNat_Int, reduceIte, or_false, false_or, eq_self, or_true, true_or, or_self, nI_clamp, vp_in_nI, nI_ltI, nI_leI, nI_eq, nI_add, nI_zero9, nI_nlt0, nI_le0, nI_lt0, arG, va_rf, not_false_eq_true, not_true_eq_false, false_implies, true_implies, implies_true, ne_eq, okv_int, okv_z0, okv_z1, okv_zN, okv_ref, okv_arr, okv_null, vn_z0, vn_z1, vn_zN, nr_int, nr_z, va_up_self, up_fr, rw1_j, rw1_up, h0, h1, h2, hi, rw1_j]
  refine ⟨fun q => ?_, fun q => ⟨fun q2 => ?_, fun q2 => ?_⟩⟩
  · rwa [if_pos (by omega)] at hK
  · rwa [if_neg (by omega)] at hK
  · rwa [if_pos (by omega)] at hK)
abbrev Sp_X8_between : Spt := fun as z f K => ∃ (a i j : Nat) (M : Cm), as = [.ref a, .int (nI i), .int (nI j)] ∧ i < 8 ∧ j < 8 ∧ isRd f a M ∧ K (some (.int (nI (M 1 i j)))) z f
def rm_X8_between : Room := { frames := 0, cells := 0, slots := 0, locals := 0 }
def q_X8_between_8 (ls : Ls) (st : List Value) (z : Zz) (f : Fm) (E : Ej) (R : Kr) : Prop := xret .int ls st z f E R
def q_X8_between_7 (ls : Ls) (st : List Value) (z : Zz) (f : Fm) (E : Ej) (R : Kr) : Prop := xald 1 7 q_X8_between_8 ls st z f E R
def q_X8_between_6 (ls : Ls) (st : List Value) (z : Zz) (f : Fm) (E : Ej) (R : Kr) : Prop := xiload 2 q_X8_between_7 ls st z f E R
def q_X8_between_5 (ls : Ls) (st : List Value) (z : Zz) (f : Fm) (E : Ej) (R : Kr) : Prop := xald 4 4 q_X8_between_6 ls st z f E R
def q_X8_between_4 (ls : Ls) (st : List Value) (z : Zz) (f : Fm) (E : Ej) (R : Kr) : Prop := xiload 1 q_X8_between_5 ls st z f E R
def q_X8_between_1 (ls : Ls) (st : List Value) (z : Zz) (f : Fm) (E : Ej) (R : Kr) : Prop := xget 7 0 q_X8_between_4 ls st z f E R
def q_X8_between_0 (ls : Ls) (st : List Value) (z : Zz) (f : Fm) (E : Ej) (R : Kr) : Prop := xaload 0 q_X8_between_1 ls st z f E R
set_option maxRecDepth 100000 in
theorem t_X8_between {s0 : State} {D : va_G} {ids : Nat → ClassId} {V : Nat → Nat} {l : Launch} {K : Kr} {E : Ej} (G : GG s0 D ids V) (X : EnX s0 D ids l RX8 cX8_between 3 (some .int) "between" rm_X8_between K E) : Sd E K 0 q_X8_between_0 := by
  have h8 : Sd E K 8 q_X8_between_8 := sd_ret X (by decide +kernel : decode cX8_between 8 = .ok (.ireturn, 1))
  have h7 : Sd E K 7 q_X8_between_7 := sd_iald X (by decide +kernel : decode cX8_between 7 = .ok (.iaload, 1)) h8
  have h6 : Sd E K 6 q_X8_between_6 := sd_iload_n X (by decide +kernel : decode cX8_between 6 = .ok (.iload_n 2, 1)) rfl h7
  have h5 : Sd E K 5 q_X8_between_5 := sd_aald X rfl (by decide +kernel : decode cX8_between 5 = .ok (.aaload, 1)) h6
  have h4 : Sd E K 4 q_X8_between_4 := sd_iload_n X (by decide +kernel : decode cX8_between 4 = .ok (.iload_n 1, 1)) rfl h5
  have h1 : Sd E K 1 q_X8_between_1 := sd_get X (by decide +kernel : decode cX8_between 1 = .ok (.getfield 11, 3)) ok_X8 (Nat.le_of_ble_eq_true rfl) wd_77 h4
  have h0 : Sd E K 0 q_X8_between_0 := sd_aload_n X (by decide +kernel : decode cX8_between 0 = .ok (.aload_n 0, 1)) rfl h1
  exact h0
set_option maxHeartbeats 4000000 in
set_option maxRecDepth 100000 in
theorem ct_X8_between {s0 : State} {D : va_G} {ids : Nat → ClassId} {V : Nat → Nat} {l : Launch} (G : GG s0 D ids V) : CT s0 D ids l yX8_between cX8_between 3 (some .int) rm_X8_between Sp_X8_between := CT.of (by decide +kernel) G.k (by
  rintro as z f K E ⟨a, i, j, M, rfl, hi, hj, hR, hK⟩ X
  refine ⟨Nat.le_of_ble_eq_true rfl, by simp [Value.category], t_X8_between G X _ _ _ _ ?_⟩
  obtain ⟨h0, ⟨h1, h2⟩⟩ := hR
  have h2 := h2 i hi
  simp (disch := omega) only [q_X8_between_0, q_X8_between_1, q_X8_between_4, q_X8_between_5, q_X8_between_6, q_X8_between_7, q_X8_between_8, xpush, xiload, xaload, xlload, xfload, xdload, lkill, xistore, xastore, xfstore, xlstore, xdstore, xiinc, xbin, xdiv, xun, xlbin, xi2l, xi2f, xi2d, xlcmp, xfcmp, xdcmp, xfdiv, xddiv, c1, xdup, xpop, xdup_x1, xdup2, xif, xicmp, xtab, xtabL, xget, xput, xald, xast, xalen, xnew, xnewa, c1s, recvOk, xcall, kont, xret, xlret, xfret, xdret, xaret, xvret, xs, xnewq, xastq, xcopy, xcopyF, xobj, xmax, xmin, xdead, xpushq, xmna, ls0, List.map_cons, List.map_nil, List.length_cons, List.length_nil, List.replicate, List.append_nil, List.cons_append, List.nil_append, List.getElem?_cons_zero, List.getElem?_cons_succ, List.getElem?_nil, List.set_cons_zero, List.set_cons_succ, List.take_succ_cons, List.take_zero, List.drop_succ_cons, List.drop_zero, List.reverse_cons, List.reverse_nil, List.sum_cons, List.sum_nil, Value.category, Option.toList_some, Option.toList_none, Nat.reduceAdd, Nat.reduceSub, Nat.reduceLT, Nat.reduceLeDiff, Nat.zero_add, Nat.le_refl, true_and, and_true, Nat.sub_zero, Nat.zero_lt_succ, Nat.zero_le, Nat.not_lt_zero, Nat.reduceEqDiff, Nat.one_ne_zero, nI_toInt, Int.reduceEq, Int.reduceAdd, Int.reduceLT, Int.reduceLE, Int.cast_ofNat_Int, reduceIte, or_false, false_or, eq_self, or_true, true_or, or_self, nI_clamp, vp_in_nI, nI_ltI, nI_leI, nI_eq, nI_add, nI_zero9, nI_nlt0, nI_le0, nI_lt0, arG, va_rf, not_false_eq_true, not_true_eq_false, false_implies, true_implies, implies_true, ne_eq, okv_int, okv_z0, okv_z1, okv_zN, okv_ref, okv_arr, okv_null, vn_z0, vn_z1, vn_zN, nr_int, nr_z, va_up_self, up_fr, rw1_j, rw1_up, h0, h1, h2, hi, rw1_j]
  exact hK)
abbrev Sp_X8_areJoined : Spt := fun as z f K => ∃ (a i j : Nat) (M : Cm), as = [.ref a, .int (nI i), .int (nI j)] ∧ i < 8 ∧ j < 8 ∧ M 1 i j < 1048576 ∧ isRd f a M ∧ K (some (.int (nI (if 0 < M 1 i j then 1 else 0)))) z f
def rm_X8_areJoined : Room := { frames := 0, cells := 0, slots := 0, locals := 0 }
def q_X8_areJoined_16 (ls : Ls) (st : List Value) (z : Zz) (f : Fm) (E : Ej) (R : Kr) : Prop := xret .boolean ls st z f E R
def q_X8_areJoined_15 (ls : Ls) (st : List Value) (z : Zz) (f : Fm) (E : Ej) (R : Kr) : Prop := xpush (.int (nI 0)) q_X8_areJoined_16 ls st z f E R
def q_X8_areJoined_11 (ls : Ls) (st : List Value) (z : Zz) (f : Fm) (E : Ej) (R : Kr) : Prop := xpush (.int (nI 1)) q_X8_areJoined_16 ls st z f E R
def q_X8_areJoined_8 (ls : Ls) (st : List Value) (z : Zz) (f : Fm) (E : Ej) (R : Kr) : Prop := xif (fun x => x ≤ 0) q_X8_areJoined_15 q_X8_areJoined_11 ls st z f E R
def q_X8_areJoined_7 (ls : Ls) (st : List Value) (z : Zz) (f : Fm) (E : Ej) (R : Kr) : Prop := xald 1 7 q_X8_areJoined_8 ls st z f E R
def q_X8_areJoined_6 (ls : Ls) (st : List Value) (z : Zz) (f : Fm) (E : Ej) (R : Kr) : Prop := xiload 2 q_X8_areJoined_7 ls st z f E R
def q_X8_areJoined_5 (ls : Ls) (st : List Value) (z : Zz) (f : Fm) (E : Ej) (R : Kr) : Prop := xald 4 4 q_X8_areJoined_6 ls st z f E R
def q_X8_areJoined_4 (ls : Ls) (st : List Value) (z : Zz) (f : Fm) (E : Ej) (R : Kr) : Prop := xiload 1 q_X8_areJoined_5 ls st z f E R
def q_X8_areJoined_1 (ls : Ls) (st : List Value) (z : Zz) (f : Fm) (E : Ej) (R : Kr) : Prop := xget 7 0 q_X8_areJoined_4 ls st z f E R
def q_X8_areJoined_0 (ls : Ls) (st : List Value) (z : Zz) (f : Fm) (E : Ej) (R : Kr) : Prop := xaload 0 q_X8_areJoined_1 ls st z f E R
set_option maxRecDepth 100000 in
theorem t_X8_areJoined {s0 : State} {D : va_G} {ids : Nat → ClassId} {V : Nat → Nat} {l : Launch} {K : Kr} {E : Ej} (G : GG s0 D ids V) (X : EnX s0 D ids l RX8 cX8_areJoined 3 (some .boolean) "areJoined" rm_X8_areJoined K E) : Sd E K 0 q_X8_areJoined_0 := by
  have h16 : Sd E K 16 q_X8_areJoined_16 := sd_ret X (by decide +kernel : decode cX8_areJoined 16 = .ok (.ireturn, 1))
  have h15 : Sd E K 15 q_X8_areJoined_15 := sd_iconst X (by decide +kernel : decode cX8_areJoined 15 = .ok (.iconst 0, 1)) (by decide +kernel) h16
  have h12 : Sd E K 12 q_X8_areJoined_16 := sd_goto X (by decide +kernel : decode cX8_areJoined 12 = .ok (.goto 4, 3)) (by decide) h16
  have h11 : Sd E K 11 q_X8_areJoined_11 := sd_iconst X (by decide +kernel : decode cX8_areJoined 11 = .ok (.iconst 1, 1)) (by decide +kernel) h12
  have h8 : Sd E K 8 q_X8_areJoined_8 := sd_if_le X (by decide +kernel : decode cX8_areJoined 8 = .ok (.ifCond .le 7, 3)) (by decide) h15 h11
  have h7 : Sd E K 7 q_X8_areJoined_7 := sd_iald X (by decide +kernel : decode cX8_areJoined 7 = .ok (.iaload, 1)) h8
  have h6 : Sd E K 6 q_X8_areJoined_6 := sd_iload_n X (by decide +kernel : decode cX8_areJoined 6 = .ok (.iload_n 2, 1)) rfl h7
  have h5 : Sd E K 5 q_X8_areJoined_5 := sd_aald X rfl (by decide +kernel : decode cX8_areJoined 5 = .ok (.aaload, 1)) h6
  have h4 : Sd E K 4 q_X8_areJoined_4 := sd_iload_n X (by decide +kernel : decode cX8_areJoined 4 = .ok (.iload_n 1, 1)) rfl h5
  have h1 : Sd E K 1 q_X8_areJoined_1 := sd_get X (by decide +kernel : decode cX8_areJoined 1 = .ok (.getfield 11, 3)) ok_X8 (Nat.le_of_ble_eq_true rfl) wd_77 h4
  have h0 : Sd E K 0 q_X8_areJoined_0 := sd_aload_n X (by decide +kernel : decode cX8_areJoined 0 = .ok (.aload_n 0, 1)) rfl h1
  exact h0
set_option maxHeartbeats 4000000 in
set_option maxRecDepth 100000 in
theorem ct_X8_areJoined {s0 : State} {D : va_G} {ids : Nat → ClassId} {V : Nat → Nat} {l : Launch} (G : GG s0 D ids V) : CT s0 D ids l yX8_areJoined cX8_areJoined 3 (some .boolean) rm_X8_areJoined Sp_X8_areJoined := CT.of (by decide +kernel) G.k (by
  rintro as z f K E ⟨a, i, j, M, rfl, hi, hj, hM, hR, hK⟩ X
  refine ⟨Nat.le_of_ble_eq_true rfl, by simp [Value.category], t_X8_areJoined G X _ _ _ _ ?_⟩
  obtain ⟨h0, ⟨h1, h2⟩⟩ := hR
  have h2 := h2 i hi
  simp (disch := omega) only [q_X8_areJoined_0, q_X8_areJoined_1, q_X8_areJoined_4, q_X8_areJoined_5, q_X8_areJoined_6, q_X8_areJoined_7, q_X8_areJoined_8, q_X8_areJoined_11, q_X8_areJoined_15, q_X8_areJoined_16, xpush, xiload, xaload, xlload, xfload, xdload, lkill, xistore, xastore, xfstore, xlstore, xdstore, xiinc, xbin, xdiv, xun, xlbin, xi2l, xi2f, xi2d, xlcmp, xfcmp, xdcmp, xfdiv, xddiv, c1, xdup, xpop, xdup_x1, xdup2, xif, xicmp, xtab, xtabL, xget, xput, xald, xast, xalen, xnew, xnewa, c1s, recvOk, xcall, kont, xret, xlret, xfret, xdret, xaret, xvret, xs, xnewq, xastq, xcopy, xcopyF, xobj, xmax, xmin, xdead, xpushq, xmna, ls0, List.map_cons, List.map_nil, List.length_cons, List.length_nil, List.replicate, List.append_nil, List.cons_append, List.nil_append, List.getElem?_cons_zero, List.getElem?_cons_succ, List.getElem?_nil, List.set_cons_zero, List.set_cons_succ, List.take_succ_cons, List.take_zero, List.drop_succ_cons, List.drop_zero, List.reverse_cons, List.reverse_nil, List.sum_cons, List.sum_nil, Value.category, Option.toList_some, Option.toList_none, Nat.reduceAdd, Nat.reduceSub, Nat.reduceLT, Nat.reduceLeDiff, Nat.zero_add, Nat.le_refl, true_and, and_true, Nat.sub_zero, Nat.zero_lt_succ, Nat.zero_le, Nat.not_lt_zero, Nat.reduceEqDiff, Nat.one_ne_zero, nI_toInt, Int.reduceEq, Int.reduceAdd, Int.reduceLT, Int.reduceLE, Int.cast_ofNat_Int, reduceIte, or_false, false_or, eq_self, or_true, true_or, or_self, nI_clamp, vp_in_nI, nI_ltI, nI_leI, nI_eq, nI_add, nI_zero9, nI_nlt0, nI_le0, nI_lt0, arG, va_rf, not_false_eq_true, not_true_eq_false, false_implies, true_implies, implies_true, ne_eq, okv_int, okv_z0, okv_z1, okv_zN, okv_ref, okv_arr, okv_null, vn_z0, vn_z1, vn_zN, nr_int, nr_z, va_up_self, up_fr, rw1_j, rw1_up, h0, h1, h2, hi, rw1_j]
  refine ⟨fun q => ?_, fun q => ?_⟩
  · rwa [if_neg (by omega)] at hK
  · rwa [if_pos (by omega)] at hK)
abbrev Sp_X9_take : Spt := fun as z f K => ∃ (a i j n d s : Nat) (M : Cm), as = [.ref a, .int (nI i), .int (nI j), .int (nI n), .int (nI d), .int (nI s)] ∧ i < 8 ∧ j < 8 ∧ isRt f a M ∧ ∀ f', isRt f' a (mup (mup (mup (mup M 2 i j d) 3 i j n) 4 i j s) 5 i j 0) → (∀ q, q < a ∨ a + 37 ≤ q → f' q = f q) → K none z f'
def rm_X9_take : Room := { frames := 0, cells := 0, slots := 0, locals := 0 }
def q_X9_take_38 (ls : Ls) (st : List Value) (z : Zz) (f : Fm) (E : Ej) (R : Kr) : Prop := xvret ls st z f E R
def q_X9_take_37 (ls : Ls) (st : List Value) (z : Zz) (f : Fm) (E : Ej) (R : Kr) : Prop := xast 1 q_X9_take_38 ls st z f E R
def q_X9_take_36 (ls : Ls) (st : List Value) (z : Zz) (f : Fm) (E : Ej) (R : Kr) : Prop := xpush (.int (nI 0)) q_X9_take_37 ls st z f E R
def q_X9_take_35 (ls : Ls) (st : List Value) (z : Zz) (f : Fm) (E : Ej) (R : Kr) : Prop := xiload 2 q_X9_take_36 ls st z f E R
def q_X9_take_34 (ls : Ls) (st : List Value) (z : Zz) (f : Fm) (E : Ej) (R : Kr) : Prop := xald 4 4 q_X9_take_35 ls st z f E R
def q_X9_take_33 (ls : Ls) (st : List Value) (z : Zz) (f : Fm) (E : Ej) (R : Kr) : Prop := xiload 1 q_X9_take_34 ls st z f E R
def q_X9_take_30 (ls : Ls) (st : List Value) (z : Zz) (f : Fm) (E : Ej) (R : Kr) : Prop := xget 8 3 q_X9_take_33 ls st z f E R
def q_X9_take_29 (ls : Ls) (st : List Value) (z : Zz) (f : Fm) (E : Ej) (R : Kr) : Prop := xaload 0 q_X9_take_30 ls st z f E R
def q_X9_take_28 (ls : Ls) (st : List Value) (z : Zz) (f : Fm) (E : Ej) (R : Kr) : Prop := xast 1 q_X9_take_29 ls st z f E R
def q_X9_take_26 (ls : Ls) (st : List Value) (z : Zz) (f : Fm) (E : Ej) (R : Kr) : Prop := xiload 5 q_X9_take_28 ls st z f E R
def q_X9_take_25 (ls : Ls) (st : List Value) (z : Zz) (f : Fm) (E : Ej) (R : Kr) : Prop := xiload 2 q_X9_take_26 ls st z f E R
def q_X9_take_24 (ls : Ls) (st : List Value) (z : Zz) (f : Fm) (E : Ej) (R : Kr) : Prop := xald 4 4 q_X9_take_25 ls st z f E R
def q_X9_take_23 (ls : Ls) (st : List Value) (z : Zz) (f : Fm) (E : Ej) (R : Kr) : Prop := xiload 1 q_X9_take_24 ls st z f E R
def q_X9_take_20 (ls : Ls) (st : List Value) (z : Zz) (f : Fm) (E : Ej) (R : Kr) : Prop := xget 8 2 q_X9_take_23 ls st z f E R
def q_X9_take_19 (ls : Ls) (st : List Value) (z : Zz) (f : Fm) (E : Ej) (R : Kr) : Prop := xaload 0 q_X9_take_20 ls st z f E R
def q_X9_take_18 (ls : Ls) (st : List Value) (z : Zz) (f : Fm) (E : Ej) (R : Kr) : Prop := xast 1 q_X9_take_19 ls st z f E R
def q_X9_take_17 (ls : Ls) (st : List Value) (z : Zz) (f : Fm) (E : Ej) (R : Kr) : Prop := xiload 3 q_X9_take_18 ls st z f E R
def q_X9_take_16 (ls : Ls) (st : List Value) (z : Zz) (f : Fm) (E : Ej) (R : Kr) : Prop := xiload 2 q_X9_take_17 ls st z f E R
def q_X9_take_15 (ls : Ls) (st : List Value) (z : Zz) (f : Fm) (E : Ej) (R : Kr) : Prop := xald 4 4 q_X9_take_16 ls st z f E R
def q_X9_take_14 (ls : Ls) (st : List Value) (z : Zz) (f : Fm) (E : Ej) (R : Kr) : Prop := xiload 1 q_X9_take_15 ls st z f E R
def q_X9_take_11 (ls : Ls) (st : List Value) (z : Zz) (f : Fm) (E : Ej) (R : Kr) : Prop := xget 8 1 q_X9_take_14 ls st z f E R
def q_X9_take_10 (ls : Ls) (st : List Value) (z : Zz) (f : Fm) (E : Ej) (R : Kr) : Prop := xaload 0 q_X9_take_11 ls st z f E R
def q_X9_take_9 (ls : Ls) (st : List Value) (z : Zz) (f : Fm) (E : Ej) (R : Kr) : Prop := xast 1 q_X9_take_10 ls st z f E R
def q_X9_take_7 (ls : Ls) (st : List Value) (z : Zz) (f : Fm) (E : Ej) (R : Kr) : Prop := xiload 4 q_X9_take_9 ls st z f E R
def q_X9_take_6 (ls : Ls) (st : List Value) (z : Zz) (f : Fm) (E : Ej) (R : Kr) : Prop := xiload 2 q_X9_take_7 ls st z f E R
def q_X9_take_5 (ls : Ls) (st : List Value) (z : Zz) (f : Fm) (E : Ej) (R : Kr) : Prop := xald 4 4 q_X9_take_6 ls st z f E R
def q_X9_take_4 (ls : Ls) (st : List Value) (z : Zz) (f : Fm) (E : Ej) (R : Kr) : Prop := xiload 1 q_X9_take_5 ls st z f E R
def q_X9_take_1 (ls : Ls) (st : List Value) (z : Zz) (f : Fm) (E : Ej) (R : Kr) : Prop := xget 8 0 q_X9_take_4 ls st z f E R
def q_X9_take_0 (ls : Ls) (st : List Value) (z : Zz) (f : Fm) (E : Ej) (R : Kr) : Prop := xaload 0 q_X9_take_1 ls st z f E R
set_option maxRecDepth 100000 in
theorem t_X9_take {s0 : State} {D : va_G} {ids : Nat → ClassId} {V : Nat → Nat} {l : Launch} {K : Kr} {E : Ej} (G : GG s0 D ids V) (X : EnX s0 D ids l RX9 cX9_take 6 none "take" rm_X9_take K E) : Sd E K 0 q_X9_take_0 := by
  have h38 : Sd E K 38 q_X9_take_38 := sd_vret X (by decide +kernel : decode cX9_take 38 = .ok (.return_, 1))
  have h37 : Sd E K 37 q_X9_take_37 := sd_iast X (by decide +kernel : decode cX9_take 37 = .ok (.iastore, 1)) h38
  have h36 : Sd E K 36 q_X9_take_36 := sd_iconst X (by decide +kernel : decode cX9_take 36 = .ok (.iconst 0, 1)) (by decide +kernel) h37
  have h35 : Sd E K 35 q_X9_take_35 := sd_iload_n X (by decide +kernel : decode cX9_take 35 = .ok (.iload_n 2, 1)) rfl h36
  have h34 : Sd E K 34 q_X9_take_34 := sd_aald X rfl (by decide +kernel : decode cX9_take 34 = .ok (.aaload, 1)) h35
  have h33 : Sd E K 33 q_X9_take_33 := sd_iload_n X (by decide +kernel : decode cX9_take 33 = .ok (.iload_n 1, 1)) rfl h34
  have h30 : Sd E K 30 q_X9_take_30 := sd_get X (by decide +kernel : decode cX9_take 30 = .ok (.getfield 22, 3)) ok_X9 (Nat.le_of_ble_eq_true rfl) wd_105 h33
  have h29 : Sd E K 29 q_X9_take_29 := sd_aload_n X (by decide +kernel : decode cX9_take 29 = .ok (.aload_n 0, 1)) rfl h30
  have h28 : Sd E K 28 q_X9_take_28 := sd_iast X (by decide +kernel : decode cX9_take 28 = .ok (.iastore, 1)) h29
  have h26 : Sd E K 26 q_X9_take_26 := sd_iload X (by decide +kernel : decode cX9_take 26 = .ok (.iload 5, 2)) h28
  have h25 : Sd E K 25 q_X9_take_25 := sd_iload_n X (by decide +kernel : decode cX9_take 25 = .ok (.iload_n 2, 1)) rfl h26
  have h24 : Sd E K 24 q_X9_take_24 := sd_aald X rfl (by decide +kernel : decode cX9_take 24 = .ok (.aaload, 1)) h25
  have h23 : Sd E K 23 q_X9_take_23 := sd_iload_n X (by decide +kernel : decode cX9_take 23 = .ok (.iload_n 1, 1)) rfl h24
  have h20 : Sd E K 20 q_X9_take_20 := sd_get X (by decide +kernel : decode cX9_take 20 = .ok (.getfield 19, 3)) ok_X9 (Nat.le_of_ble_eq_true rfl) wd_103 h23
  have h19 : Sd E K 19 q_X9_take_19 := sd_aload_n X (by decide +kernel : decode cX9_take 19 = .ok (.aload_n 0, 1)) rfl h20
  have h18 : Sd E K 18 q_X9_take_18 := sd_iast X (by decide +kernel : decode cX9_take 18 = .ok (.iastore, 1)) h19
  have h17 : Sd E K 17 q_X9_take_17 := sd_iload_n X (by decide +kernel : decode cX9_take 17 = .ok (.iload_n 3, 1)) rfl h18
  have h16 : Sd E K 16 q_X9_take_16 := sd_iload_n X (by decide +kernel : decode cX9_take 16 = .ok (.iload_n 2, 1)) rfl h17
  have h15 : Sd E K 15 q_X9_take_15 := sd_aald X rfl (by decide +kernel : decode cX9_take 15 = .ok (.aaload, 1)) h16
  have h14 : Sd E K 14 q_X9_take_14 := sd_iload_n X (by decide +kernel : decode cX9_take 14 = .ok (.iload_n 1, 1)) rfl h15
  have h11 : Sd E K 11 q_X9_take_11 := sd_get X (by decide +kernel : decode cX9_take 11 = .ok (.getfield 16, 3)) ok_X9 (Nat.le_of_ble_eq_true rfl) wd_98 h14
  have h10 : Sd E K 10 q_X9_take_10 := sd_aload_n X (by decide +kernel : decode cX9_take 10 = .ok (.aload_n 0, 1)) rfl h11
  have h9 : Sd E K 9 q_X9_take_9 := sd_iast X (by decide +kernel : decode cX9_take 9 = .ok (.iastore, 1)) h10
  have h7 : Sd E K 7 q_X9_take_7 := sd_iload X (by decide +kernel : decode cX9_take 7 = .ok (.iload 4, 2)) h9
  have h6 : Sd E K 6 q_X9_take_6 := sd_iload_n X (by decide +kernel : decode cX9_take 6 = .ok (.iload_n 2, 1)) rfl h7
  have h5 : Sd E K 5 q_X9_take_5 := sd_aald X rfl (by decide +kernel : decode cX9_take 5 = .ok (.aaload, 1)) h6
  have h4 : Sd E K 4 q_X9_take_4 := sd_iload_n X (by decide +kernel : decode cX9_take 4 = .ok (.iload_n 1, 1)) rfl h5
  have h1 : Sd E K 1 q_X9_take_1 := sd_get X (by decide +kernel : decode cX9_take 1 = .ok (.getfield 11, 3)) ok_X9 (Nat.le_of_ble_eq_true rfl) wd_95 h4
  have h0 : Sd E K 0 q_X9_take_0 := sd_aload_n X (by decide +kernel : decode cX9_take 0 = .ok (.aload_n 0, 1)) rfl h1
  exact h0
set_option maxHeartbeats 4000000 in
set_option maxRecDepth 100000 in
theorem ct_X9_take {s0 : State} {D : va_G} {ids : Nat → ClassId} {V : Nat → Nat} {l : Launch} (G : GG s0 D ids V) : CT s0 D ids l yX9_take cX9_take 6 none rm_X9_take Sp_X9_take := CT.of (by decide +kernel) G.k (by
  rintro as z f K E ⟨a, i, j, n, d, s, M, rfl, hi, hj, hR, hK⟩ X
  refine ⟨Nat.le_of_ble_eq_true rfl, by simp [Value.category], t_X9_take G X _ _ _ _ ?_⟩
  obtain ⟨h0, ⟨h1, h2⟩, ⟨h3, h4⟩, ⟨h5, h6⟩, ⟨h7, h8⟩⟩ := id hR
  have g2 := h2 i hi
  have g4 := h4 i hi
  have g6 := h6 i hi
  have g8 := h8 i hi
  simp (disch := omega) only [q_X9_take_0, q_X9_take_1, q_X9_take_4, q_X9_take_5, q_X9_take_6, q_X9_take_7, q_X9_take_9, q_X9_take_10, q_X9_take_11, q_X9_take_14, q_X9_take_15, q_X9_take_16, q_X9_take_17, q_X9_take_18, q_X9_take_19, q_X9_take_20, q_X9_take_23, q_X9_take_24, q_X9_take_25, q_X9_take_26, q_X9_take_28, q_X9_take_29, q_X9_take_30, q_X9_take_33, q_X9_take_34, q_X9_take_35, q_X9_take_36, q_X9_take_37, q_X9_take_38, xpush, xiload, xaload, xlload, xfload, xdload, lkill, xistore, xastore, xfstore, xlstore, xdstore, xiinc, xbin, xdiv, xun, xlbin, xi2l, xi2f, xi2d, xlcmp, xfcmp, xdcmp, xfdiv, xddiv, c1, xdup, xpop, xdup_x1, xdup2, xif, xicmp, xtab, xtabL, xget, xput, xald, xast, xalen, xnew, xnewa, c1s, recvOk, xcall, kont, xret, xlret, xfret, xdret, xaret, xvret, xs, xnewq, xastq, xcopy, xcopyF, xobj, xmax, xmin, xdead, xpushq, xmna, ls0, List.map_cons, List.map_nil, List.length_cons, List.length_nil, List.replicate, List.append_nil, List.cons_append, List.nil_append, List.getElem?_cons_zero, List.getElem?_cons_succ, List.getElem?_nil, List.set_cons_zero, List.set_cons_succ, List.take_succ_cons, List.take_zero, List.drop_succ_cons, List.drop_zero, List.reverse_cons, List.reverse_nil, List.sum_cons, List.sum_nil, Value.category, Option.toList_some, Option.toList_none, Nat.reduceAdd, Nat.reduceSub, Nat.reduceLT, Nat.reduceLeDiff, Nat.zero_add, Nat.le_refl, true_and, and_true, Nat.sub_zero, Nat.zero_lt_succ, Nat.zero_le, Nat.not_lt_zero, Nat.reduceEqDiff, Nat.one_ne_zero, nI_toInt, Int.reduceEq, Int.reduceAdd, Int.reduceLT, Int.reduceLE, Int.cast_ofNat_Int, reduceIte, or_false, false_or, eq_self, or_true, true_or, or_self, nI_clamp, vp_in_nI, nI_ltI, nI_leI, nI_eq, nI_add, nI_zero9, nI_nlt0, nI_le0, nI_lt0, arG, va_rf, not_false_eq_true, not_true_eq_false, false_implies, true_implies, implies_true, ne_eq, okv_int, okv_z0, okv_z1, okv_zN, okv_ref, okv_arr, okv_null, vn_z0, vn_z1, vn_zN, nr_int, nr_z, va_up_self, up_fr, rw1_j, rw1_up, h0, h1, h3, h5, h7, g2, g4, g6, g8, hi, vn_int]
  refine hK _ ((((hR.set2 hi).set3 hi).set4 hi).set5 hi) (fun q hq => ?_)
  simp (disch := omega) only [up_fr])
abbrev Sp_X9_lose : Spt := fun as z f K => ∃ (a i j : Nat) (M : Cm), as = [.ref a, .int (nI i), .int (nI j)] ∧ i < 8 ∧ j < 8 ∧ isRt f a M ∧ ∀ f', isRt f' a (mup (mup (mup (mup M 2 i j 0) 3 i j 0) 4 i j 0) 5 i j 0) → (∀ q, q < a ∨ a + 37 ≤ q → f' q = f q) → K none z f'
def rm_X9_lose : Room := { frames := 0, cells := 0, slots := 0, locals := 0 }
def q_X9_lose_36 (ls : Ls) (st : List Value) (z : Zz) (f : Fm) (E : Ej) (R : Kr) : Prop := xvret ls st z f E R
def q_X9_lose_35 (ls : Ls) (st : List Value) (z : Zz) (f : Fm) (E : Ej) (R : Kr) : Prop := xast 1 q_X9_lose_36 ls st z f E R
def q_X9_lose_34 (ls : Ls) (st : List Value) (z : Zz) (f : Fm) (E : Ej) (R : Kr) : Prop := xpush (.int (nI 0)) q_X9_lose_35 ls st z f E R
def q_X9_lose_33 (ls : Ls) (st : List Value) (z : Zz) (f : Fm) (E : Ej) (R : Kr) : Prop := xiload 2 q_X9_lose_34 ls st z f E R
def q_X9_lose_32 (ls : Ls) (st : List Value) (z : Zz) (f : Fm) (E : Ej) (R : Kr) : Prop := xald 4 4 q_X9_lose_33 ls st z f E R
def q_X9_lose_31 (ls : Ls) (st : List Value) (z : Zz) (f : Fm) (E : Ej) (R : Kr) : Prop := xiload 1 q_X9_lose_32 ls st z f E R
def q_X9_lose_28 (ls : Ls) (st : List Value) (z : Zz) (f : Fm) (E : Ej) (R : Kr) : Prop := xget 8 3 q_X9_lose_31 ls st z f E R
def q_X9_lose_27 (ls : Ls) (st : List Value) (z : Zz) (f : Fm) (E : Ej) (R : Kr) : Prop := xaload 0 q_X9_lose_28 ls st z f E R
def q_X9_lose_26 (ls : Ls) (st : List Value) (z : Zz) (f : Fm) (E : Ej) (R : Kr) : Prop := xast 1 q_X9_lose_27 ls st z f E R
def q_X9_lose_25 (ls : Ls) (st : List Value) (z : Zz) (f : Fm) (E : Ej) (R : Kr) : Prop := xpush (.int (nI 0)) q_X9_lose_26 ls st z f E R
def q_X9_lose_24 (ls : Ls) (st : List Value) (z : Zz) (f : Fm) (E : Ej) (R : Kr) : Prop := xiload 2 q_X9_lose_25 ls st z f E R
def q_X9_lose_23 (ls : Ls) (st : List Value) (z : Zz) (f : Fm) (E : Ej) (R : Kr) : Prop := xald 4 4 q_X9_lose_24 ls st z f E R
def q_X9_lose_22 (ls : Ls) (st : List Value) (z : Zz) (f : Fm) (E : Ej) (R : Kr) : Prop := xiload 1 q_X9_lose_23 ls st z f E R
def q_X9_lose_19 (ls : Ls) (st : List Value) (z : Zz) (f : Fm) (E : Ej) (R : Kr) : Prop := xget 8 2 q_X9_lose_22 ls st z f E R
def q_X9_lose_18 (ls : Ls) (st : List Value) (z : Zz) (f : Fm) (E : Ej) (R : Kr) : Prop := xaload 0 q_X9_lose_19 ls st z f E R
def q_X9_lose_17 (ls : Ls) (st : List Value) (z : Zz) (f : Fm) (E : Ej) (R : Kr) : Prop := xast 1 q_X9_lose_18 ls st z f E R
def q_X9_lose_16 (ls : Ls) (st : List Value) (z : Zz) (f : Fm) (E : Ej) (R : Kr) : Prop := xpush (.int (nI 0)) q_X9_lose_17 ls st z f E R
def q_X9_lose_15 (ls : Ls) (st : List Value) (z : Zz) (f : Fm) (E : Ej) (R : Kr) : Prop := xiload 2 q_X9_lose_16 ls st z f E R
def q_X9_lose_14 (ls : Ls) (st : List Value) (z : Zz) (f : Fm) (E : Ej) (R : Kr) : Prop := xald 4 4 q_X9_lose_15 ls st z f E R
def q_X9_lose_13 (ls : Ls) (st : List Value) (z : Zz) (f : Fm) (E : Ej) (R : Kr) : Prop := xiload 1 q_X9_lose_14 ls st z f E R
def q_X9_lose_10 (ls : Ls) (st : List Value) (z : Zz) (f : Fm) (E : Ej) (R : Kr) : Prop := xget 8 1 q_X9_lose_13 ls st z f E R
def q_X9_lose_9 (ls : Ls) (st : List Value) (z : Zz) (f : Fm) (E : Ej) (R : Kr) : Prop := xaload 0 q_X9_lose_10 ls st z f E R
def q_X9_lose_8 (ls : Ls) (st : List Value) (z : Zz) (f : Fm) (E : Ej) (R : Kr) : Prop := xast 1 q_X9_lose_9 ls st z f E R
def q_X9_lose_7 (ls : Ls) (st : List Value) (z : Zz) (f : Fm) (E : Ej) (R : Kr) : Prop := xpush (.int (nI 0)) q_X9_lose_8 ls st z f E R
def q_X9_lose_6 (ls : Ls) (st : List Value) (z : Zz) (f : Fm) (E : Ej) (R : Kr) : Prop := xiload 2 q_X9_lose_7 ls st z f E R
def q_X9_lose_5 (ls : Ls) (st : List Value) (z : Zz) (f : Fm) (E : Ej) (R : Kr) : Prop := xald 4 4 q_X9_lose_6 ls st z f E R
def q_X9_lose_4 (ls : Ls) (st : List Value) (z : Zz) (f : Fm) (E : Ej) (R : Kr) : Prop := xiload 1 q_X9_lose_5 ls st z f E R
def q_X9_lose_1 (ls : Ls) (st : List Value) (z : Zz) (f : Fm) (E : Ej) (R : Kr) : Prop := xget 8 0 q_X9_lose_4 ls st z f E R
def q_X9_lose_0 (ls : Ls) (st : List Value) (z : Zz) (f : Fm) (E : Ej) (R : Kr) : Prop := xaload 0 q_X9_lose_1 ls st z f E R
set_option maxRecDepth 100000 in
theorem t_X9_lose {s0 : State} {D : va_G} {ids : Nat → ClassId} {V : Nat → Nat} {l : Launch} {K : Kr} {E : Ej} (G : GG s0 D ids V) (X : EnX s0 D ids l RX9 cX9_lose 3 none "lose" rm_X9_lose K E) : Sd E K 0 q_X9_lose_0 := by
  have h36 : Sd E K 36 q_X9_lose_36 := sd_vret X (by decide +kernel : decode cX9_lose 36 = .ok (.return_, 1))
  have h35 : Sd E K 35 q_X9_lose_35 := sd_iast X (by decide +kernel : decode cX9_lose 35 = .ok (.iastore, 1)) h36
  have h34 : Sd E K 34 q_X9_lose_34 := sd_iconst X (by decide +kernel : decode cX9_lose 34 = .ok (.iconst 0, 1)) (by decide +kernel) h35
  have h33 : Sd E K 33 q_X9_lose_33 := sd_iload_n X (by decide +kernel : decode cX9_lose 33 = .ok (.iload_n 2, 1)) rfl h34
  have h32 : Sd E K 32 q_X9_lose_32 := sd_aald X rfl (by decide +kernel : decode cX9_lose 32 = .ok (.aaload, 1)) h33
  have h31 : Sd E K 31 q_X9_lose_31 := sd_iload_n X (by decide +kernel : decode cX9_lose 31 = .ok (.iload_n 1, 1)) rfl h32
  have h28 : Sd E K 28 q_X9_lose_28 := sd_get X (by decide +kernel : decode cX9_lose 28 = .ok (.getfield 22, 3)) ok_X9 (Nat.le_of_ble_eq_true rfl) wd_105 h31
  have h27 : Sd E K 27 q_X9_lose_27 := sd_aload_n X (by decide +kernel : decode cX9_lose 27 = .ok (.aload_n 0, 1)) rfl h28
  have h26 : Sd E K 26 q_X9_lose_26 := sd_iast X (by decide +kernel : decode cX9_lose 26 = .ok (.iastore, 1)) h27
  have h25 : Sd E K 25 q_X9_lose_25 := sd_iconst X (by decide +kernel : decode cX9_lose 25 = .ok (.iconst 0, 1)) (by decide +kernel) h26
  have h24 : Sd E K 24 q_X9_lose_24 := sd_iload_n X (by decide +kernel : decode cX9_lose 24 = .ok (.iload_n 2, 1)) rfl h25
  have h23 : Sd E K 23 q_X9_lose_23 := sd_aald X rfl (by decide +kernel : decode cX9_lose 23 = .ok (.aaload, 1)) h24
  have h22 : Sd E K 22 q_X9_lose_22 := sd_iload_n X (by decide +kernel : decode cX9_lose 22 = .ok (.iload_n 1, 1)) rfl h23
  have h19 : Sd E K 19 q_X9_lose_19 := sd_get X (by decide +kernel : decode cX9_lose 19 = .ok (.getfield 19, 3)) ok_X9 (Nat.le_of_ble_eq_true rfl) wd_103 h22
  have h18 : Sd E K 18 q_X9_lose_18 := sd_aload_n X (by decide +kernel : decode cX9_lose 18 = .ok (.aload_n 0, 1)) rfl h19
  have h17 : Sd E K 17 q_X9_lose_17 := sd_iast X (by decide +kernel : decode cX9_lose 17 = .ok (.iastore, 1)) h18
  have h16 : Sd E K 16 q_X9_lose_16 := sd_iconst X (by decide +kernel : decode cX9_lose 16 = .ok (.iconst 0, 1)) (by decide +kernel) h17
  have h15 : Sd E K 15 q_X9_lose_15 := sd_iload_n X (by decide +kernel : decode cX9_lose 15 = .ok (.iload_n 2, 1)) rfl h16
  have h14 : Sd E K 14 q_X9_lose_14 := sd_aald X rfl (by decide +kernel : decode cX9_lose 14 = .ok (.aaload, 1)) h15
  have h13 : Sd E K 13 q_X9_lose_13 := sd_iload_n X (by decide +kernel : decode cX9_lose 13 = .ok (.iload_n 1, 1)) rfl h14
  have h10 : Sd E K 10 q_X9_lose_10 := sd_get X (by decide +kernel : decode cX9_lose 10 = .ok (.getfield 16, 3)) ok_X9 (Nat.le_of_ble_eq_true rfl) wd_98 h13
  have h9 : Sd E K 9 q_X9_lose_9 := sd_aload_n X (by decide +kernel : decode cX9_lose 9 = .ok (.aload_n 0, 1)) rfl h10
  have h8 : Sd E K 8 q_X9_lose_8 := sd_iast X (by decide +kernel : decode cX9_lose 8 = .ok (.iastore, 1)) h9
  have h7 : Sd E K 7 q_X9_lose_7 := sd_iconst X (by decide +kernel : decode cX9_lose 7 = .ok (.iconst 0, 1)) (by decide +kernel) h8
  have h6 : Sd E K 6 q_X9_lose_6 := sd_iload_n X (by decide +kernel : decode cX9_lose 6 = .ok (.iload_n 2, 1)) rfl h7
  have h5 : Sd E K 5 q_X9_lose_5 := sd_aald X rfl (by decide +kernel : decode cX9_lose 5 = .ok (.aaload, 1)) h6
  have h4 : Sd E K 4 q_X9_lose_4 := sd_iload_n X (by decide +kernel : decode cX9_lose 4 = .ok (.iload_n 1, 1)) rfl h5
  have h1 : Sd E K 1 q_X9_lose_1 := sd_get X (by decide +kernel : decode cX9_lose 1 = .ok (.getfield 11, 3)) ok_X9 (Nat.le_of_ble_eq_true rfl) wd_95 h4
  have h0 : Sd E K 0 q_X9_lose_0 := sd_aload_n X (by decide +kernel : decode cX9_lose 0 = .ok (.aload_n 0, 1)) rfl h1
  exact h0
set_option maxHeartbeats 4000000 in
set_option maxRecDepth 100000 in
theorem ct_X9_lose {s0 : State} {D : va_G} {ids : Nat → ClassId} {V : Nat → Nat} {l : Launch} (G : GG s0 D ids V) : CT s0 D ids l yX9_lose cX9_lose 3 none rm_X9_lose Sp_X9_lose := CT.of (by decide +kernel) G.k (by
  rintro as z f K E ⟨a, i, j, M, rfl, hi, hj, hR, hK⟩ X
  refine ⟨Nat.le_of_ble_eq_true rfl, by simp [Value.category], t_X9_lose G X _ _ _ _ ?_⟩
  obtain ⟨h0, ⟨h1, h2⟩, ⟨h3, h4⟩, ⟨h5, h6⟩, ⟨h7, h8⟩⟩ := id hR
  have g2 := h2 i hi
  have g4 := h4 i hi
  have g6 := h6 i hi
  have g8 := h8 i hi
  simp (disch := omega) only [q_X9_lose_0, q_X9_lose_1, q_X9_lose_4, q_X9_lose_5, q_X9_lose_6, q_X9_lose_7, q_X9_lose_8, q_X9_lose_9, q_X9_lose_10, q_X9_lose_13, q_X9_lose_14, q_X9_lose_15, q_X9_lose_16, q_X9_lose_17, q_X9_lose_18, q_X9_lose_19, q_X9_lose_22, q_X9_lose_23, q_X9_lose_24, q_X9_lose_25, q_X9_lose_26, q_X9_lose_27, q_X9_lose_28, q_X9_lose_31, q_X9_lose_32, q_X9_lose_33, q_X9_lose_34, q_X9_lose_35, q_X9_lose_36, xpush, xiload, xaload, xlload, xfload, xdload, lkill, xistore, xastore, xfstore, xlstore, xdstore, xiinc, xbin, xdiv, xun, xlbin, xi2l, xi2f, xi2d, xlcmp, xfcmp, xdcmp, xfdiv, xddiv, c1, xdup, xpop, xdup_x1, xdup2, xif, xicmp, xtab, xtabL, xget, xput, xald, xast, xalen, xnew, xnewa, c1s, recvOk, xcall, kont, xret, xlret, xfret, xdret, xaret, xvret, xs, xnewq, xastq, xcopy, xcopyF, xobj, xmax, xmin, xdead, xpushq, xmna, ls0, List.map_cons, List.map_nil, List.length_cons, List.length_nil, List.replicate, List.append_nil, List.cons_append, List.nil_append, List.getElem?_cons_zero, List.getElem?_cons_succ, List.getElem?_nil, List.set_cons_zero, List.set_cons_succ, List.take_succ_cons, List.take_zero, List.drop_succ_cons, List.drop_zero, List.reverse_cons, List.reverse_nil, List.sum_cons, List.sum_nil, Value.category, Option.toList_some, Option.toList_none, Nat.reduceAdd, Nat.reduceSub, Nat.reduceLT, Nat.reduceLeDiff, Nat.zero_add, Nat.le_refl, true_and, and_true, Nat.sub_zero, Nat.zero_lt_succ, Nat.zero_le, Nat.not_lt_zero, Nat.reduceEqDiff, Nat.one_ne_zero, nI_toInt, Int.reduceEq, Int.reduceAdd, Int.reduceLT, Int.reduceLE, Int.cast_ofNat_Int, reduceIte, or_false, false_or, eq_self, or_true, true_or, or_self, nI_clamp, vp_in_nI, nI_ltI, nI_leI, nI_eq, nI_add, nI_zero9, nI_nlt0, nI_le0, nI_lt0, arG, va_rf, not_false_eq_true, not_true_eq_false, false_implies, true_implies, implies_true, ne_eq, okv_int, okv_z0, okv_z1, okv_zN, okv_ref, okv_arr, okv_null, vn_z0, vn_z1, vn_zN, nr_int, nr_z, va_up_self, up_fr, rw1_j, rw1_up, h0, h1, h3, h5, h7, g2, g4, g6, g8, hi, vn_int]
  refine hK _ ((((hR.set2 hi).set3 hi).set4 hi).set5 hi) (fun q hq => ?_)
  simp (disch := omega) only [up_fr])
abbrev Sp_X9_countOf : Spt := fun as z f K => ∃ (a i : Nat) (M : Cm), as = [.ref a, .int (nI i)] ∧ i < 8 ∧ sm M ∧ isRt f a M ∧ K (some (.int (nI (cntN (fun j => 0 < M 2 i j) 8)))) z f
def rm_X9_countOf : Room := { frames := 1, cells := 0, slots := 0, locals := 22 }
def q_X9_countOf_29 (ls : Ls) (st : List Value) (z : Zz) (f : Fm) (E : Ej) (R : Kr) : Prop := xret .int ls st z f E R
def q_X9_countOf_28 (ls : Ls) (st : List Value) (z : Zz) (f : Fm) (E : Ej) (R : Kr) : Prop := xiload 2 q_X9_countOf_29 ls st z f E R
def q_X9_countOf_22 (ls : Ls) (st : List Value) (z : Zz) (f : Fm) (E : Ej) (R : Kr) : Prop := xiinc 3 (nI 1) (xs 4) ls st z f E R
def q_X9_countOf_19 (ls : Ls) (st : List Value) (z : Zz) (f : Fm) (E : Ej) (R : Kr) : Prop := xiinc 2 (nI 1) q_X9_countOf_22 ls st z f E R
def q_X9_countOf_16 (ls : Ls) (st : List Value) (z : Zz) (f : Fm) (E : Ej) (R : Kr) : Prop := xif (fun x => x = 0) q_X9_countOf_22 q_X9_countOf_19 ls st z f E R
def q_X9_countOf_13 (ls : Ls) (st : List Value) (z : Zz) (f : Fm) (E : Ej) (R : Kr) : Prop := xcall 3 9 Sp_X9_isKnown 0 0 q_X9_countOf_16 ls st z f E R
def q_X9_countOf_12 (ls : Ls) (st : List Value) (z : Zz) (f : Fm) (E : Ej) (R : Kr) : Prop := xiload 3 q_X9_countOf_13 ls st z f E R
def q_X9_countOf_11 (ls : Ls) (st : List Value) (z : Zz) (f : Fm) (E : Ej) (R : Kr) : Prop := xiload 1 q_X9_countOf_12 ls st z f E R
def q_X9_countOf_10 (ls : Ls) (st : List Value) (z : Zz) (f : Fm) (E : Ej) (R : Kr) : Prop := xaload 0 q_X9_countOf_11 ls st z f E R
def q_X9_countOf_7 (ls : Ls) (st : List Value) (z : Zz) (f : Fm) (E : Ej) (R : Kr) : Prop := xicmp (fun x y => y ≤ x) q_X9_countOf_28 q_X9_countOf_10 ls st z f E R
def q_X9_countOf_5 (ls : Ls) (st : List Value) (z : Zz) (f : Fm) (E : Ej) (R : Kr) : Prop := xpush (.int (nI 8)) q_X9_countOf_7 ls st z f E R
def q_X9_countOf_4 (ls : Ls) (st : List Value) (z : Zz) (f : Fm) (E : Ej) (R : Kr) : Prop := xiload 3 q_X9_countOf_5 ls st z f E R
def q_X9_countOf_3 (ls : Ls) (st : List Value) (z : Zz) (f : Fm) (E : Ej) (R : Kr) : Prop := xistore 3 (xs 4) ls st z f E R
def q_X9_countOf_2 (ls : Ls) (st : List Value) (z : Zz) (f : Fm) (E : Ej) (R : Kr) : Prop := xpush (.int (nI 0)) q_X9_countOf_3 ls st z f E R
def q_X9_countOf_1 (ls : Ls) (st : List Value) (z : Zz) (f : Fm) (E : Ej) (R : Kr) : Prop := xistore 2 q_X9_countOf_2 ls st z f E R
def q_X9_countOf_0 (ls : Ls) (st : List Value) (z : Zz) (f : Fm) (E : Ej) (R : Kr) : Prop := xpush (.int (nI 0)) q_X9_countOf_1 ls st z f E R
set_option maxRecDepth 100000 in
theorem t_X9_countOf {s0 : State} {D : va_G} {ids : Nat → ClassId} {V : Nat → Nat} {l : Launch} {K : Kr} {E : Ej} (G : GG s0 D ids V) (X : EnX s0 D ids l RX9 cX9_countOf 4 (some .int) "countOf" rm_X9_countOf K E) : Sd E K 0 q_X9_countOf_0 ∧ Sd E K 4 q_X9_countOf_4 := by
  have h29 : Sd E K 29 q_X9_countOf_29 := sd_ret X (by decide +kernel : decode cX9_countOf 29 = .ok (.ireturn, 1))
  have h28 : Sd E K 28 q_X9_countOf_28 := sd_iload_n X (by decide +kernel : decode cX9_countOf 28 = .ok (.iload_n 2, 1)) rfl h29
  have h25 : Sd E K 25 (xs 4) := sd_goto X (by decide +kernel : decode cX9_countOf 25 = .ok (.goto (-21), 3)) (by decide) (sd_s 4)
  have h22 : Sd E K 22 q_X9_countOf_22 := sd_iinc X (by decide +kernel : decode cX9_countOf 22 = .ok (.iinc 3 1, 3)) (by decide +kernel) h25
  have h19 : Sd E K 19 q_X9_countOf_19 := sd_iinc X (by decide +kernel : decode cX9_countOf 19 = .ok (.iinc 2 1, 3)) (by decide +kernel) h22
  have h16 : Sd E K 16 q_X9_countOf_16 := sd_if_eq X (by decide +kernel : decode cX9_countOf 16 = .ok (.ifCond .eq 6, 3)) (by decide) h22 h19
  have h13 : Sd E K 13 q_X9_countOf_13 := sd_callV (n := 2) (ci := 8) X (ct_X9_isKnown G) (by decide +kernel : decode cX9_countOf 13 = .ok (.invokevirtual 37, 3)) wd_550 wd_911 wd_548 wd_549 wd_28 (by decide +kernel) (Or.inl ⟨by decide, _, _, rfl⟩) ⟨Nat.le_of_ble_eq_true rfl, Nat.le_of_ble_eq_true rfl⟩ h16
  have h12 : Sd E K 12 q_X9_countOf_12 := sd_iload_n X (by decide +kernel : decode cX9_countOf 12 = .ok (.iload_n 3, 1)) rfl h13
  have h11 : Sd E K 11 q_X9_countOf_11 := sd_iload_n X (by decide +kernel : decode cX9_countOf 11 = .ok (.iload_n 1, 1)) rfl h12
  have h10 : Sd E K 10 q_X9_countOf_10 := sd_aload_n X (by decide +kernel : decode cX9_countOf 10 = .ok (.aload_n 0, 1)) rfl h11
  have h7 : Sd E K 7 q_X9_countOf_7 := sd_icmp_ge X (by decide +kernel : decode cX9_countOf 7 = .ok (.if_icmp .ge 21, 3)) (by decide) h28 h10
  have h5 : Sd E K 5 q_X9_countOf_5 := sd_bipush X (by decide +kernel : decode cX9_countOf 5 = .ok (.bipush 8, 2)) (by decide +kernel) h7
  have h4 : Sd E K 4 q_X9_countOf_4 := sd_iload_n X (by decide +kernel : decode cX9_countOf 4 = .ok (.iload_n 3, 1)) rfl h5
  have h3 : Sd E K 3 q_X9_countOf_3 := sd_istore_n X (by decide +kernel : decode cX9_countOf 3 = .ok (.istore_n 3, 1)) rfl (sd_s 4)
  have h2 : Sd E K 2 q_X9_countOf_2 := sd_iconst X (by decide +kernel : decode cX9_countOf 2 = .ok (.iconst 0, 1)) (by decide +kernel) h3
  have h1 : Sd E K 1 q_X9_countOf_1 := sd_istore_n X (by decide +kernel : decode cX9_countOf 1 = .ok (.istore_n 2, 1)) rfl h2
  have h0 : Sd E K 0 q_X9_countOf_0 := sd_iconst X (by decide +kernel : decode cX9_countOf 0 = .ok (.iconst 0, 1)) (by decide +kernel) h1
  exact ⟨h0, h4⟩
set_option maxHeartbeats 4000000 in
set_option maxRecDepth 100000 in
theorem ct_X9_countOf {s0 : State} {D : va_G} {ids : Nat → ClassId} {V : Nat → Nat} {l : Launch} (G : GG s0 D ids V) : CT s0 D ids l yX9_countOf cX9_countOf 4 (some .int) rm_X9_countOf Sp_X9_countOf := CT.of (by decide +kernel) G.k (by
  rintro as z f K E ⟨a, i, M, rfl, hi, hS, hR, hK⟩ X
  obtain ⟨t0, t1⟩ := t_X9_countOf G X
  refine ⟨Nat.le_of_ble_eq_true rfl, by simp [Value.category], t0 _ _ _ _ ?_⟩
  simp (disch := omega) only [q_X9_countOf_0, q_X9_countOf_1, q_X9_countOf_2, q_X9_countOf_3, q_X9_countOf_4, q_X9_countOf_5, q_X9_countOf_7, q_X9_countOf_10, q_X9_countOf_11, q_X9_countOf_12, q_X9_countOf_13, q_X9_countOf_16, q_X9_countOf_19, q_X9_countOf_22, q_X9_countOf_28, q_X9_countOf_29, xpush, xiload, xaload, xlload, xfload, xdload, lkill, xistore, xastore, xfstore, xlstore, xdstore, xiinc, xbin, xdiv, xun, xlbin, xi2l, xi2f, xi2d, xlcmp, xfcmp, xdcmp, xfdiv, xddiv, c1, xdup, xpop, xdup_x1, xdup2, xif, xicmp, xtab, xtabL, xget, xput, xald, xast, xalen, xnew, xnewa, c1s, recvOk, xcall, kont, xret, xlret, xfret, xdret, xaret, xvret, xs, xnewq, xastq, xcopy, xcopyF, xobj, xmax, xmin, xdead, xpushq, xmna, ls0, List.map_cons, List.map_nil, List.length_cons, List.length_nil, List.replicate, List.append_nil, List.cons_append, List.nil_append, List.getElem?_cons_zero, List.getElem?_cons_succ, List.getElem?_nil, List.set_cons_zero, List.set_cons_succ, List.take_succ_cons, List.take_zero, List.drop_succ_cons, List.drop_zero, List.reverse_cons, List.reverse_nil, List.sum_cons, List.sum_nil, Value.category, Option.toList_some, Option.toList_none, Nat.reduceAdd, Nat.reduceSub, Nat.reduceLT, Nat.reduceLeDiff, Nat.zero_add, Nat.le_refl, true_and, and_true, Nat.sub_zero, Nat.zero_lt_succ, Nat.zero_le, Nat.not_lt_zero, Nat.reduceEqDiff, Nat.one_ne_zero, nI_toInt, Int.reduceEq, Int.reduceAdd, Int.reduceLT, Int.reduceLE, Int.cast_ofNat_Int, reduceIte, or_false, false_or, eq_self, or_true, true_or, or_self, nI_clamp, vp_in_nI, nI_ltI, nI_leI, nI_eq, nI_add, nI_zero9, nI_nlt0, nI_le0, nI_lt0, arG, va_rf, not_false_eq_true, not_true_eq_false, false_implies, true_implies, implies_true, ne_eq, okv_int, okv_z0, okv_z1, okv_zN, okv_ref, okv_arr, okv_null, vn_z0, vn_z1, vn_zN, nr_int, nr_z, va_up_self, up_fr, rw1_j, rw1_up]
  have key := dn (N := 8) (P := fun j => E 4 [some (.ref a), some (.int (nI i)), some (.int (nI (cntN (fun j => 0 < M 2 i j) j))), some (.int (nI j))] [] (z, 0, 0) f) ?_ ?_ 0 (by omega)
  · exact key
  · refine t1 _ _ _ _ ?_
    simp (disch := omega) only [q_X9_countOf_0, q_X9_countOf_1, q_X9_countOf_2, q_X9_countOf_3, q_X9_countOf_4, q_X9_countOf_5, q_X9_countOf_7, q_X9_countOf_10, q_X9_countOf_11, q_X9_countOf_12, q_X9_countOf_13, q_X9_countOf_16, q_X9_countOf_19, q_X9_countOf_22, q_X9_countOf_28, q_X9_countOf_29, xpush, xiload, xaload, xlload, xfload, xdload, lkill, xistore, xastore, xfstore, xlstore, xdstore, xiinc, xbin, xdiv, xun, xlbin, xi2l, xi2f, xi2d, xlcmp, xfcmp, xdcmp, xfdiv, xddiv, c1, xdup, xpop, xdup_x1, xdup2, xif, xicmp, xtab, xtabL, xget, xput, xald, xast, xalen, xnew, xnewa, c1s, recvOk, xcall, kont, xret, xlret, xfret, xdret, xaret, xvret, xs, xnewq, xastq, xcopy, xcopyF, xobj, xmax, xmin, xdead, xpushq, xmna, ls0, List.map_cons, List.map_nil, List.length_cons, List.length_nil, List.replicate, List.append_nil, List.cons_append, List.nil_append, List.getElem?_cons_zero, List.getElem?_cons_succ, List.getElem?_nil, List.set_cons_zero, List.set_cons_succ, List.take_succ_cons, List.take_zero, List.drop_succ_cons, List.drop_zero, List.reverse_cons, List.reverse_nil, List.sum_cons, List.sum_nil, Value.category, Option.toList_some, Option.toList_none, Nat.reduceAdd, Nat.reduceSub, Nat.reduceLT, Nat.reduceLeDiff, Nat.zero_add, Nat.le_refl, true_and, and_true, Nat.sub_zero, Nat.zero_lt_succ, Nat.zero_le, Nat.not_lt_zero, Nat.reduceEqDiff, Nat.one_ne_zero, nI_toInt, Int.reduceEq, Int.reduceAdd, Int.reduceLT, Int.reduceLE, Int.cast_ofNat_Int, reduceIte, or_false, false_or, eq_self, or_true, true_or, or_self, nI_clamp, vp_in_nI, nI_ltI, nI_leI, nI_eq, nI_add, nI_zero9, nI_nlt0, nI_le0, nI_lt0, arG, va_rf, not_false_eq_true, not_true_eq_false, false_implies, true_implies, implies_true, ne_eq, okv_int, okv_z0, okv_z1, okv_zN, okv_ref, okv_arr, okv_null, vn_z0, vn_z1, vn_zN, nr_int, nr_z, va_up_self, up_fr, rw1_j, rw1_up]
    exact hK
  · intro j hj ih
    refine t1 _ _ _ _ ?_
    simp (disch := omega) only [q_X9_countOf_0, q_X9_countOf_1, q_X9_countOf_2, q_X9_countOf_3, q_X9_countOf_4, q_X9_countOf_5, q_X9_countOf_7, q_X9_countOf_10, q_X9_countOf_11, q_X9_countOf_12, q_X9_countOf_13, q_X9_countOf_16, q_X9_countOf_19, q_X9_countOf_22, q_X9_countOf_28, q_X9_countOf_29, xpush, xiload, xaload, xlload, xfload, xdload, lkill, xistore, xastore, xfstore, xlstore, xdstore, xiinc, xbin, xdiv, xun, xlbin, xi2l, xi2f, xi2d, xlcmp, xfcmp, xdcmp, xfdiv, xddiv, c1, xdup, xpop, xdup_x1, xdup2, xif, xicmp, xtab, xtabL, xget, xput, xald, xast, xalen, xnew, xnewa, c1s, recvOk, xcall, kont, xret, xlret, xfret, xdret, xaret, xvret, xs, xnewq, xastq, xcopy, xcopyF, xobj, xmax, xmin, xdead, xpushq, xmna, ls0, List.map_cons, List.map_nil, List.length_cons, List.length_nil, List.replicate, List.append_nil, List.cons_append, List.nil_append, List.getElem?_cons_zero, List.getElem?_cons_succ, List.getElem?_nil, List.set_cons_zero, List.set_cons_succ, List.take_succ_cons, List.take_zero, List.drop_succ_cons, List.drop_zero, List.reverse_cons, List.reverse_nil, List.sum_cons, List.sum_nil, Value.category, Option.toList_some, Option.toList_none, Nat.reduceAdd, Nat.reduceSub, Nat.reduceLT, Nat.reduceLeDiff, Nat.zero_add, Nat.le_refl, true_and, and_true, Nat.sub_zero, Nat.zero_lt_succ, Nat.zero_le, Nat.not_lt_zero, Nat.reduceEqDiff, Nat.one_ne_zero, nI_toInt, Int.reduceEq, Int.reduceAdd, Int.reduceLT, Int.reduceLE, Int.cast_ofNat_Int, reduceIte, or_false, false_or, eq_self, or_true, true_or, or_self, nI_clamp, vp_in_nI, nI_ltI, nI_leI, nI_eq, nI_add, nI_zero9, nI_nlt0, nI_le0, nI_lt0, arG, va_rf, not_false_eq_true, not_true_eq_false, false_implies, true_implies, implies_true, ne_eq, okv_int, okv_z0, okv_z1, okv_zN, okv_ref, okv_arr, okv_null, vn_z0, vn_z1, vn_zN, nr_int, nr_z, va_up_self, up_fr, rw1_j, rw1_up, hR.1, Nat.not_le.mpr hj]
    refine ⟨a, i, j, M, rfl, hi, hj, hS.1 2 i j (by omega), hR, ?_⟩
    unfold cntN at ih
    by_cases q : 0 < M 2 i j
    · rw [if_pos q] at ih
      simp (disch := omega) only [q_X9_countOf_0, q_X9_countOf_1, q_X9_countOf_2, q_X9_countOf_3, q_X9_countOf_4, q_X9_countOf_5, q_X9_countOf_7, q_X9_countOf_10, q_X9_countOf_11, q_X9_countOf_12, q_X9_countOf_13, q_X9_countOf_16, q_X9_countOf_19, q_X9_countOf_22, q_X9_countOf_28, q_X9_countOf_29, xpush, xiload, xaload, xlload, xfload, xdload, lkill, xistore, xastore, xfstore, xlstore, xdstore, xiinc, xbin, xdiv, xun, xlbin, xi2l, xi2f, xi2d, xlcmp, xfcmp, xdcmp, xfdiv, xddiv, c1, xdup, xpop, xdup_x1, xdup2, xif, xicmp, xtab, xtabL, xget, xput, xald, xast, xalen, xnew, xnewa, c1s, recvOk, xcall, kont, xret, xlret, xfret, xdret, xaret, xvret, xs, xnewq, xastq, xcopy, xcopyF, xobj, xmax, xmin, xdead, xpushq, xmna, ls0, List.map_cons, List.map_nil, List.length_cons, List.length_nil, List.replicate, List.append_nil, List.cons_append, List.nil_append, List.getElem?_cons_zero, List.getElem?_cons_succ, List.getElem?_nil, List.set_cons_zero, List.set_cons_succ, List.take_succ_cons, List.take_zero, List.drop_succ_cons, List.drop_zero, List.reverse_cons, List.reverse_nil, List.sum_cons, List.sum_nil, Value.category, Option.toList_some, Option.toList_none, Nat.reduceAdd, Nat.reduceSub, Nat.reduceLT, Nat.reduceLeDiff, Nat.zero_add, Nat.le_refl, true_and, and_true, Nat.sub_zero, Nat.zero_lt_succ, Nat.zero_le, Nat.not_lt_zero, Nat.reduceEqDiff, Nat.one_ne_zero, nI_toInt, Int.reduceEq, Int.reduceAdd, Int.reduceLT, Int.reduceLE, Int.cast_ofNat_Int, reduceIte, or_false, false_or, eq_self, or_true, true_or, or_self, nI_clamp, vp_in_nI, nI_ltI, nI_leI, nI_eq, nI_add, nI_zero9, nI_nlt0, nI_le0, nI_lt0, arG, va_rf, not_false_eq_true, not_true_eq_false, false_implies, true_implies, implies_true, ne_eq, okv_int, okv_z0, okv_z1, okv_zN, okv_ref, okv_arr, okv_null, vn_z0, vn_z1, vn_zN, nr_int, nr_z, va_up_self, up_fr, rw1_j, rw1_up, q]
      exact ih
    · rw [if_neg q] at ih
      simp (disch := omega) only [q_X9_countOf_0, q_X9_countOf_1, q_X9_countOf_2, q_X9_countOf_3, q_X9_countOf_4, q_X9_countOf_5, q_X9_countOf_7, q_X9_countOf_10, q_X9_countOf_11, q_X9_countOf_12, q_X9_countOf_13, q_X9_countOf_16, q_X9_countOf_19, q_X9_countOf_22, q_X9_countOf_28, q_X9_countOf_29, xpush, xiload, xaload, xlload, xfload, xdload, lkill, xistore, xastore, xfstore, xlstore, xdstore, xiinc, xbin, xdiv, xun, xlbin, xi2l, xi2f, xi2d, xlcmp, xfcmp, xdcmp, xfdiv, xddiv, c1, xdup, xpop, xdup_x1, xdup2, xif, xicmp, xtab, xtabL, xget, xput, xald, xast, xalen, xnew, xnewa, c1s, recvOk, xcall, kont, xret, xlret, xfret, xdret, xaret, xvret, xs, xnewq, xastq, xcopy, xcopyF, xobj, xmax, xmin, xdead, xpushq, xmna, ls0, List.map_cons, List.map_nil, List.length_cons, List.length_nil, List.replicate, List.append_nil, List.cons_append, List.nil_append, List.getElem?_cons_zero, List.getElem?_cons_succ, List.getElem?_nil, List.set_cons_zero, List.set_cons_succ, List.take_succ_cons, List.take_zero, List.drop_succ_cons, List.drop_zero, List.reverse_cons, List.reverse_nil, List.sum_cons, List.sum_nil, Value.category, Option.toList_some, Option.toList_none, Nat.reduceAdd, Nat.reduceSub, Nat.reduceLT, Nat.reduceLeDiff, Nat.zero_add, Nat.le_refl, true_and, and_true, Nat.sub_zero, Nat.zero_lt_succ, Nat.zero_le, Nat.not_lt_zero, Nat.reduceEqDiff, Nat.one_ne_zero, nI_toInt, Int.reduceEq, Int.reduceAdd, Int.reduceLT, Int.reduceLE, Int.cast_ofNat_Int, reduceIte, or_false, false_or, eq_self, or_true, true_or, or_self, nI_clamp, vp_in_nI, nI_ltI, nI_leI, nI_eq, nI_add, nI_zero9, nI_nlt0, nI_le0, nI_lt0, arG, va_rf, not_false_eq_true, not_true_eq_false, false_implies, true_implies, implies_true, ne_eq, okv_int, okv_z0, okv_z1, okv_zN, okv_ref, okv_arr, okv_null, vn_z0, vn_z1, vn_zN, nr_int, nr_z, va_up_self, up_fr, rw1_j, rw1_up, q]
      exact ih)
abbrev Sp_X9_sumOfLeagues : Spt := fun as z f K => ∃ (a i : Nat) (M : Cm), as = [.ref a, .int (nI i)] ∧ i < 8 ∧ isRt f a M ∧ K (some (.int (nI (sumN (M 2 i) 8)))) z f
def rm_X9_sumOfLeagues : Room := { frames := 0, cells := 0, slots := 0, locals := 0 }
def q_X9_sumOfLeagues_28 (ls : Ls) (st : List Value) (z : Zz) (f : Fm) (E : Ej) (R : Kr) : Prop := xret .int ls st z f E R
def q_X9_sumOfLeagues_27 (ls : Ls) (st : List Value) (z : Zz) (f : Fm) (E : Ej) (R : Kr) : Prop := xiload 2 q_X9_sumOfLeagues_28 ls st z f E R
def q_X9_sumOfLeagues_21 (ls : Ls) (st : List Value) (z : Zz) (f : Fm) (E : Ej) (R : Kr) : Prop := xiinc 3 (nI 1) (xs 4) ls st z f E R
def q_X9_sumOfLeagues_20 (ls : Ls) (st : List Value) (z : Zz) (f : Fm) (E : Ej) (R : Kr) : Prop := xistore 2 q_X9_sumOfLeagues_21 ls st z f E R
def q_X9_sumOfLeagues_19 (ls : Ls) (st : List Value) (z : Zz) (f : Fm) (E : Ej) (R : Kr) : Prop := xbin (fun x y => x + y) q_X9_sumOfLeagues_20 ls st z f E R
def q_X9_sumOfLeagues_18 (ls : Ls) (st : List Value) (z : Zz) (f : Fm) (E : Ej) (R : Kr) : Prop := xald 1 7 q_X9_sumOfLeagues_19 ls st z f E R
def q_X9_sumOfLeagues_17 (ls : Ls) (st : List Value) (z : Zz) (f : Fm) (E : Ej) (R : Kr) : Prop := xiload 3 q_X9_sumOfLeagues_18 ls st z f E R
def q_X9_sumOfLeagues_16 (ls : Ls) (st : List Value) (z : Zz) (f : Fm) (E : Ej) (R : Kr) : Prop := xald 4 4 q_X9_sumOfLeagues_17 ls st z f E R
def q_X9_sumOfLeagues_15 (ls : Ls) (st : List Value) (z : Zz) (f : Fm) (E : Ej) (R : Kr) : Prop := xiload 1 q_X9_sumOfLeagues_16 ls st z f E R
def q_X9_sumOfLeagues_12 (ls : Ls) (st : List Value) (z : Zz) (f : Fm) (E : Ej) (R : Kr) : Prop := xget 8 0 q_X9_sumOfLeagues_15 ls st z f E R
def q_X9_sumOfLeagues_11 (ls : Ls) (st : List Value) (z : Zz) (f : Fm) (E : Ej) (R : Kr) : Prop := xaload 0 q_X9_sumOfLeagues_12 ls st z f E R
def q_X9_sumOfLeagues_10 (ls : Ls) (st : List Value) (z : Zz) (f : Fm) (E : Ej) (R : Kr) : Prop := xiload 2 q_X9_sumOfLeagues_11 ls st z f E R
def q_X9_sumOfLeagues_7 (ls : Ls) (st : List Value) (z : Zz) (f : Fm) (E : Ej) (R : Kr) : Prop := xicmp (fun x y => y ≤ x) q_X9_sumOfLeagues_27 q_X9_sumOfLeagues_10 ls st z f E R
def q_X9_sumOfLeagues_5 (ls : Ls) (st : List Value) (z : Zz) (f : Fm) (E : Ej) (R : Kr) : Prop := xpush (.int (nI 8)) q_X9_sumOfLeagues_7 ls st z f E R
def q_X9_sumOfLeagues_4 (ls : Ls) (st : List Value) (z : Zz) (f : Fm) (E : Ej) (R : Kr) : Prop := xiload 3 q_X9_sumOfLeagues_5 ls st z f E R
def q_X9_sumOfLeagues_3 (ls : Ls) (st : List Value) (z : Zz) (f : Fm) (E : Ej) (R : Kr) : Prop := xistore 3 (xs 4) ls st z f E R
def q_X9_sumOfLeagues_2 (ls : Ls) (st : List Value) (z : Zz) (f : Fm) (E : Ej) (R : Kr) : Prop := xpush (.int (nI 0)) q_X9_sumOfLeagues_3 ls st z f E R
def q_X9_sumOfLeagues_1 (ls : Ls) (st : List Value) (z : Zz) (f : Fm) (E : Ej) (R : Kr) : Prop := xistore 2 q_X9_sumOfLeagues_2 ls st z f E R
def q_X9_sumOfLeagues_0 (ls : Ls) (st : List Value) (z : Zz) (f : Fm) (E : Ej) (R : Kr) : Prop := xpush (.int (nI 0)) q_X9_sumOfLeagues_1 ls st z f E R
set_option maxRecDepth 100000 in
theorem t_X9_sumOfLeagues {s0 : State} {D : va_G} {ids : Nat → ClassId} {V : Nat → Nat} {l : Launch} {K : Kr} {E : Ej} (G : GG s0 D ids V) (X : EnX s0 D ids l RX9 cX9_sumOfLeagues 4 (some .int) "sumOfLeagues" rm_X9_sumOfLeagues K E) : Sd E K 0 q_X9_sumOfLeagues_0 ∧ Sd E K 4 q_X9_sumOfLeagues_4 := by
  have h28 : Sd E K 28 q_X9_sumOfLeagues_28 := sd_ret X (by decide +kernel : decode cX9_sumOfLeagues 28 = .ok (.ireturn, 1))
  have h27 : Sd E K 27 q_X9_sumOfLeagues_27 := sd_iload_n X (by decide +kernel : decode cX9_sumOfLeagues 27 = .ok (.iload_n 2, 1)) rfl h28
  have h24 : Sd E K 24 (xs 4) := sd_goto X (by decide +kernel : decode cX9_sumOfLeagues 24 = .ok (.goto (-20), 3)) (by decide) (sd_s 4)
  have h21 : Sd E K 21 q_X9_sumOfLeagues_21 := sd_iinc X (by decide +kernel : decode cX9_sumOfLeagues 21 = .ok (.iinc 3 1, 3)) (by decide +kernel) h24
  have h20 : Sd E K 20 q_X9_sumOfLeagues_20 := sd_istore_n X (by decide +kernel : decode cX9_sumOfLeagues 20 = .ok (.istore_n 2, 1)) rfl h21
  have h19 : Sd E K 19 q_X9_sumOfLeagues_19 := sd_iadd X (by decide +kernel : decode cX9_sumOfLeagues 19 = .ok (.iadd, 1)) h20
  have h18 : Sd E K 18 q_X9_sumOfLeagues_18 := sd_iald X (by decide +kernel : decode cX9_sumOfLeagues 18 = .ok (.iaload, 1)) h19
  have h17 : Sd E K 17 q_X9_sumOfLeagues_17 := sd_iload_n X (by decide +kernel : decode cX9_sumOfLeagues 17 = .ok (.iload_n 3, 1)) rfl h18
  have h16 : Sd E K 16 q_X9_sumOfLeagues_16 := sd_aald X rfl (by decide +kernel : decode cX9_sumOfLeagues 16 = .ok (.aaload, 1)) h17
  have h15 : Sd E K 15 q_X9_sumOfLeagues_15 := sd_iload_n X (by decide +kernel : decode cX9_sumOfLeagues 15 = .ok (.iload_n 1, 1)) rfl h16
  have h12 : Sd E K 12 q_X9_sumOfLeagues_12 := sd_get X (by decide +kernel : decode cX9_sumOfLeagues 12 = .ok (.getfield 11, 3)) ok_X9 (Nat.le_of_ble_eq_true rfl) wd_95 h15
  have h11 : Sd E K 11 q_X9_sumOfLeagues_11 := sd_aload_n X (by decide +kernel : decode cX9_sumOfLeagues 11 = .ok (.aload_n 0, 1)) rfl h12
  have h10 : Sd E K 10 q_X9_sumOfLeagues_10 := sd_iload_n X (by decide +kernel : decode cX9_sumOfLeagues 10 = .ok (.iload_n 2, 1)) rfl h11
  have h7 : Sd E K 7 q_X9_sumOfLeagues_7 := sd_icmp_ge X (by decide +kernel : decode cX9_sumOfLeagues 7 = .ok (.if_icmp .ge 20, 3)) (by decide) h27 h10
  have h5 : Sd E K 5 q_X9_sumOfLeagues_5 := sd_bipush X (by decide +kernel : decode cX9_sumOfLeagues 5 = .ok (.bipush 8, 2)) (by decide +kernel) h7
  have h4 : Sd E K 4 q_X9_sumOfLeagues_4 := sd_iload_n X (by decide +kernel : decode cX9_sumOfLeagues 4 = .ok (.iload_n 3, 1)) rfl h5
  have h3 : Sd E K 3 q_X9_sumOfLeagues_3 := sd_istore_n X (by decide +kernel : decode cX9_sumOfLeagues 3 = .ok (.istore_n 3, 1)) rfl (sd_s 4)
  have h2 : Sd E K 2 q_X9_sumOfLeagues_2 := sd_iconst X (by decide +kernel : decode cX9_sumOfLeagues 2 = .ok (.iconst 0, 1)) (by decide +kernel) h3
  have h1 : Sd E K 1 q_X9_sumOfLeagues_1 := sd_istore_n X (by decide +kernel : decode cX9_sumOfLeagues 1 = .ok (.istore_n 2, 1)) rfl h2
  have h0 : Sd E K 0 q_X9_sumOfLeagues_0 := sd_iconst X (by decide +kernel : decode cX9_sumOfLeagues 0 = .ok (.iconst 0, 1)) (by decide +kernel) h1
  exact ⟨h0, h4⟩
set_option maxHeartbeats 4000000 in
set_option maxRecDepth 100000 in
theorem ct_X9_sumOfLeagues {s0 : State} {D : va_G} {ids : Nat → ClassId} {V : Nat → Nat} {l : Launch} (G : GG s0 D ids V) : CT s0 D ids l yX9_sumOfLeagues cX9_sumOfLeagues 4 (some .int) rm_X9_sumOfLeagues Sp_X9_sumOfLeagues := CT.of (by decide +kernel) G.k (by
  rintro as z f K E ⟨a, i, M, rfl, hi, hR, hK⟩ X
  obtain ⟨t0, t1⟩ := t_X9_sumOfLeagues G X
  refine ⟨Nat.le_of_ble_eq_true rfl, by simp [Value.category], t0 _ _ _ _ ?_⟩
  simp (disch := omega) only [q_X9_sumOfLeagues_0, q_X9_sumOfLeagues_1, q_X9_sumOfLeagues_2, q_X9_sumOfLeagues_3, q_X9_sumOfLeagues_4, q_X9_sumOfLeagues_5, q_X9_sumOfLeagues_7, q_X9_sumOfLeagues_10, q_X9_sumOfLeagues_11, q_X9_sumOfLeagues_12, q_X9_sumOfLeagues_15, q_X9_sumOfLeagues_16, q_X9_sumOfLeagues_17, q_X9_sumOfLeagues_18, q_X9_sumOfLeagues_19, q_X9_sumOfLeagues_20, q_X9_sumOfLeagues_21, q_X9_sumOfLeagues_27, q_X9_sumOfLeagues_28, xpush, xiload, xaload, xlload, xfload, xdload, lkill, xistore, xastore, xfstore, xlstore, xdstore, xiinc, xbin, xdiv, xun, xlbin, xi2l, xi2f, xi2d, xlcmp, xfcmp, xdcmp, xfdiv, xddiv, c1, xdup, xpop, xdup_x1, xdup2, xif, xicmp, xtab, xtabL, xget, xput, xald, xast, xalen, xnew, xnewa, c1s, recvOk, xcall, kont, xret, xlret, xfret, xdret, xaret, xvret, xs, xnewq, xastq, xcopy, xcopyF, xobj, xmax, xmin, xdead, xpushq, xmna, ls0, List.map_cons, List.map_nil, List.length_cons, List.length_nil, List.replicate, List.append_nil, List.cons_append, List.nil_append, List.getElem?_cons_zero, List.getElem?_cons_succ, List.getElem?_nil, List.set_cons_zero, List.set_cons_succ, List.take_succ_cons, List.take_zero, List.drop_succ_cons, List.drop_zero, List.reverse_cons, List.reverse_nil, List.sum_cons, List.sum_nil, Value.category, Option.toList_some, Option.toList_none, Nat.reduceAdd, Nat.reduceSub, Nat.reduceLT, Nat.reduceLeDiff, Nat.zero_add, Nat.le_refl, true_and, and_true, Nat.sub_zero, Nat.zero_lt_succ, Nat.zero_le, Nat.not_lt_zero, Nat.reduceEqDiff, Nat.one_ne_zero, nI_toInt, Int.reduceEq, Int.reduceAdd, Int.reduceLT, Int.reduceLE, Int.cast_ofNat_Int, reduceIte, or_false, false_or, eq_self, or_true, true_or, or_self, nI_clamp, vp_in_nI, nI_ltI, nI_leI, nI_eq, nI_add, nI_zero9, nI_nlt0, nI_le0, nI_lt0, arG, va_rf, not_false_eq_true, not_true_eq_false, false_implies, true_implies, implies_true, ne_eq, okv_int, okv_z0, okv_z1, okv_zN, okv_ref, okv_arr, okv_null, vn_z0, vn_z1, vn_zN, nr_int, nr_z, va_up_self, up_fr, rw1_j, rw1_up]
  refine dn (N := 8) (P := fun j => E 4 [some (.ref a), some (.int (nI i)), some (.int (nI (sumN (M 2 i) j))), some (.int (nI j))] [] (z, 0, 0) f) ?_ ?_ 0 (by omega)
  · refine t1 _ _ _ _ ?_
    simp (disch := omega) only [q_X9_sumOfLeagues_0, q_X9_sumOfLeagues_1, q_X9_sumOfLeagues_2, q_X9_sumOfLeagues_3, q_X9_sumOfLeagues_4, q_X9_sumOfLeagues_5, q_X9_sumOfLeagues_7, q_X9_sumOfLeagues_10, q_X9_sumOfLeagues_11, q_X9_sumOfLeagues_12, q_X9_sumOfLeagues_15, q_X9_sumOfLeagues_16, q_X9_sumOfLeagues_17, q_X9_sumOfLeagues_18, q_X9_sumOfLeagues_19, q_X9_sumOfLeagues_20, q_X9_sumOfLeagues_21, q_X9_sumOfLeagues_27, q_X9_sumOfLeagues_28, xpush, xiload, xaload, xlload, xfload, xdload, lkill, xistore, xastore, xfstore, xlstore, xdstore, xiinc, xbin, xdiv, xun, xlbin, xi2l, xi2f, xi2d, xlcmp, xfcmp, xdcmp, xfdiv, xddiv, c1, xdup, xpop, xdup_x1, xdup2, xif, xicmp, xtab, xtabL, xget, xput, xald, xast, xalen, xnew, xnewa, c1s, recvOk, xcall, kont, xret, xlret, xfret, xdret, xaret, xvret, xs, xnewq, xastq, xcopy, xcopyF, xobj, xmax, xmin, xdead, xpushq, xmna, ls0, List.map_cons, List.map_nil, List.length_cons, List.length_nil, List.replicate, List.append_nil, List.cons_append, List.nil_append, List.getElem?_cons_zero, List.getElem?_cons_succ, List.getElem?_nil, List.set_cons_zero, List.set_cons_succ, List.take_succ_cons, List.take_zero, List.drop_succ_cons, List.drop_zero, List.reverse_cons, List.reverse_nil, List.sum_cons, List.sum_nil, Value.category, Option.toList_some, Option.toList_none, Nat.reduceAdd, Nat.reduceSub, Nat.reduceLT, Nat.reduceLeDiff, Nat.zero_add, Nat.le_refl, true_and, and_true, Nat.sub_zero, Nat.zero_lt_succ, Nat.zero_le, Nat.not_lt_zero, Nat.reduceEqDiff, Nat.one_ne_zero, nI_toInt, Int.reduceEq, Int.reduceAdd, Int.reduceLT, Int.reduceLE, Int.cast_ofNat_Int, reduceIte, or_false, false_or, eq_self, or_true, true_or, or_self, nI_clamp, vp_in_nI, nI_ltI, nI_leI, nI_eq, nI_add, nI_zero9, nI_nlt0, nI_le0, nI_lt0, arG, va_rf, not_false_eq_true, not_true_eq_false, false_implies, true_implies, implies_true, ne_eq, okv_int, okv_z0, okv_z1, okv_zN, okv_ref, okv_arr, okv_null, vn_z0, vn_z1, vn_zN, nr_int, nr_z, va_up_self, up_fr, rw1_j, rw1_up]
    exact hK
  · intro j hj ih
    refine t1 _ _ _ _ ?_
    have h2 := hR.2.1.2 i hi
    simp (disch := omega) only [q_X9_sumOfLeagues_0, q_X9_sumOfLeagues_1, q_X9_sumOfLeagues_2, q_X9_sumOfLeagues_3, q_X9_sumOfLeagues_4, q_X9_sumOfLeagues_5, q_X9_sumOfLeagues_7, q_X9_sumOfLeagues_10, q_X9_sumOfLeagues_11, q_X9_sumOfLeagues_12, q_X9_sumOfLeagues_15, q_X9_sumOfLeagues_16, q_X9_sumOfLeagues_17, q_X9_sumOfLeagues_18, q_X9_sumOfLeagues_19, q_X9_sumOfLeagues_20, q_X9_sumOfLeagues_21, q_X9_sumOfLeagues_27, q_X9_sumOfLeagues_28, xpush, xiload, xaload, xlload, xfload, xdload, lkill, xistore, xastore, xfstore, xlstore, xdstore, xiinc, xbin, xdiv, xun, xlbin, xi2l, xi2f, xi2d, xlcmp, xfcmp, xdcmp, xfdiv, xddiv, c1, xdup, xpop, xdup_x1, xdup2, xif, xicmp, xtab, xtabL, xget, xput, xald, xast, xalen, xnew, xnewa, c1s, recvOk, xcall, kont, xret, xlret, xfret, xdret, xaret, xvret, xs, xnewq, xastq, xcopy, xcopyF, xobj, xmax, xmin, xdead, xpushq, xmna, ls0, List.map_cons, List.map_nil, List.length_cons, List.length_nil, List.replicate, List.append_nil, List.cons_append, List.nil_append, List.getElem?_cons_zero, List.getElem?_cons_succ, List.getElem?_nil, List.set_cons_zero, List.set_cons_succ, List.take_succ_cons, List.take_zero, List.drop_succ_cons, List.drop_zero, List.reverse_cons, List.reverse_nil, List.sum_cons, List.sum_nil, Value.category, Option.toList_some, Option.toList_none, Nat.reduceAdd, Nat.reduceSub, Nat.reduceLT, Nat.reduceLeDiff, Nat.zero_add, Nat.le_refl, true_and, and_true, Nat.sub_zero, Nat.zero_lt_succ, Nat.zero_le, Nat.not_lt_zero, Nat.reduceEqDiff, Nat.one_ne_zero, nI_toInt, Int.reduceEq, Int.reduceAdd, Int.reduceLT, Int.reduceLE, Int.cast_ofNat_Int, reduceIte, or_false, false_or, eq_self, or_true, true_or, or_self, nI_clamp, vp_in_nI, nI_ltI, nI_leI, nI_eq, nI_add, nI_zero9, nI_nlt0, nI_le0, nI_lt0, arG, va_rf, not_false_eq_true, not_true_eq_false, false_implies, true_implies, implies_true, ne_eq, okv_int, okv_z0, okv_z1, okv_zN, okv_ref, okv_arr, okv_null, vn_z0, vn_z1, vn_zN, nr_int, nr_z, va_up_self, up_fr, rw1_j, rw1_up, hR.1, hR.2.1.1, h2, hi, Nat.not_le.mpr hj]
    exact ih)
abbrev Sp_X9_numberOf : Spt := fun as z f K => ∃ (a i j w : Nat) (M : Cm), as = [.ref a, .int (nI i), .int (nI j), .int (nI w)] ∧ i < 8 ∧ j < 8 ∧ w < 4 ∧ isRt f a M ∧ K (some (.int (nI (M (2 + w) i j)))) z f
def rm_X9_numberOf : Room := { frames := 0, cells := 0, slots := 0, locals := 0 }
def q_X9_numberOf_36 (ls : Ls) (st : List Value) (z : Zz) (f : Fm) (E : Ej) (R : Kr) : Prop := xret .int ls st z f E R
def q_X9_numberOf_35 (ls : Ls) (st : List Value) (z : Zz) (f : Fm) (E : Ej) (R : Kr) : Prop := xald 1 7 q_X9_numberOf_36 ls st z f E R
def q_X9_numberOf_34 (ls : Ls) (st : List Value) (z : Zz) (f : Fm) (E : Ej) (R : Kr) : Prop := xiload 2 q_X9_numberOf_35 ls st z f E R
def q_X9_numberOf_33 (ls : Ls) (st : List Value) (z : Zz) (f : Fm) (E : Ej) (R : Kr) : Prop := xald 4 4 q_X9_numberOf_34 ls st z f E R
def q_X9_numberOf_32 (ls : Ls) (st : List Value) (z : Zz) (f : Fm) (E : Ej) (R : Kr) : Prop := xiload 1 q_X9_numberOf_33 ls st z f E R
def q_X9_numberOf_29 (ls : Ls) (st : List Value) (z : Zz) (f : Fm) (E : Ej) (R : Kr) : Prop := xget 8 0 q_X9_numberOf_32 ls st z f E R
def q_X9_numberOf_28 (ls : Ls) (st : List Value) (z : Zz) (f : Fm) (E : Ej) (R : Kr) : Prop := xaload 0 q_X9_numberOf_29 ls st z f E R
def q_X9_numberOf_45 (ls : Ls) (st : List Value) (z : Zz) (f : Fm) (E : Ej) (R : Kr) : Prop := xret .int ls st z f E R
def q_X9_numberOf_44 (ls : Ls) (st : List Value) (z : Zz) (f : Fm) (E : Ej) (R : Kr) : Prop := xald 1 7 q_X9_numberOf_45 ls st z f E R
def q_X9_numberOf_43 (ls : Ls) (st : List Value) (z : Zz) (f : Fm) (E : Ej) (R : Kr) : Prop := xiload 2 q_X9_numberOf_44 ls st z f E R
def q_X9_numberOf_42 (ls : Ls) (st : List Value) (z : Zz) (f : Fm) (E : Ej) (R : Kr) : Prop := xald 4 4 q_X9_numberOf_43 ls st z f E R
def q_X9_numberOf_41 (ls : Ls) (st : List Value) (z : Zz) (f : Fm) (E : Ej) (R : Kr) : Prop := xiload 1 q_X9_numberOf_42 ls st z f E R
def q_X9_numberOf_38 (ls : Ls) (st : List Value) (z : Zz) (f : Fm) (E : Ej) (R : Kr) : Prop := xget 8 1 q_X9_numberOf_41 ls st z f E R
def q_X9_numberOf_37 (ls : Ls) (st : List Value) (z : Zz) (f : Fm) (E : Ej) (R : Kr) : Prop := xaload 0 q_X9_numberOf_38 ls st z f E R
def q_X9_numberOf_54 (ls : Ls) (st : List Value) (z : Zz) (f : Fm) (E : Ej) (R : Kr) : Prop := xret .int ls st z f E R
def q_X9_numberOf_53 (ls : Ls) (st : List Value) (z : Zz) (f : Fm) (E : Ej) (R : Kr) : Prop := xald 1 7 q_X9_numberOf_54 ls st z f E R
def q_X9_numberOf_52 (ls : Ls) (st : List Value) (z : Zz) (f : Fm) (E : Ej) (R : Kr) : Prop := xiload 2 q_X9_numberOf_53 ls st z f E R
def q_X9_numberOf_51 (ls : Ls) (st : List Value) (z : Zz) (f : Fm) (E : Ej) (R : Kr) : Prop := xald 4 4 q_X9_numberOf_52 ls st z f E R
def q_X9_numberOf_50 (ls : Ls) (st : List Value) (z : Zz) (f : Fm) (E : Ej) (R : Kr) : Prop := xiload 1 q_X9_numberOf_51 ls st z f E R
def q_X9_numberOf_47 (ls : Ls) (st : List Value) (z : Zz) (f : Fm) (E : Ej) (R : Kr) : Prop := xget 8 2 q_X9_numberOf_50 ls st z f E R
def q_X9_numberOf_46 (ls : Ls) (st : List Value) (z : Zz) (f : Fm) (E : Ej) (R : Kr) : Prop := xaload 0 q_X9_numberOf_47 ls st z f E R
def q_X9_numberOf_63 (ls : Ls) (st : List Value) (z : Zz) (f : Fm) (E : Ej) (R : Kr) : Prop := xret .int ls st z f E R
def q_X9_numberOf_62 (ls : Ls) (st : List Value) (z : Zz) (f : Fm) (E : Ej) (R : Kr) : Prop := xald 1 7 q_X9_numberOf_63 ls st z f E R
def q_X9_numberOf_61 (ls : Ls) (st : List Value) (z : Zz) (f : Fm) (E : Ej) (R : Kr) : Prop := xiload 2 q_X9_numberOf_62 ls st z f E R
def q_X9_numberOf_60 (ls : Ls) (st : List Value) (z : Zz) (f : Fm) (E : Ej) (R : Kr) : Prop := xald 4 4 q_X9_numberOf_61 ls st z f E R
def q_X9_numberOf_59 (ls : Ls) (st : List Value) (z : Zz) (f : Fm) (E : Ej) (R : Kr) : Prop := xiload 1 q_X9_numberOf_60 ls st z f E R
def q_X9_numberOf_56 (ls : Ls) (st : List Value) (z : Zz) (f : Fm) (E : Ej) (R : Kr) : Prop := xget 8 3 q_X9_numberOf_59 ls st z f E R
def q_X9_numberOf_55 (ls : Ls) (st : List Value) (z : Zz) (f : Fm) (E : Ej) (R : Kr) : Prop := xaload 0 q_X9_numberOf_56 ls st z f E R
def q_X9_numberOf_1 (ls : Ls) (st : List Value) (z : Zz) (f : Fm) (E : Ej) (R : Kr) : Prop := xtab (0) [q_X9_numberOf_28, q_X9_numberOf_37, q_X9_numberOf_46] q_X9_numberOf_55 ls st z f E R
def q_X9_numberOf_0 (ls : Ls) (st : List Value) (z : Zz) (f : Fm) (E : Ej) (R : Kr) : Prop := xiload 3 q_X9_numberOf_1 ls st z f E R
set_option maxRecDepth 100000 in
theorem t_X9_numberOf {s0 : State} {D : va_G} {ids : Nat → ClassId} {V : Nat → Nat} {l : Launch} {K : Kr} {E : Ej} (G : GG s0 D ids V) (X : EnX s0 D ids l RX9 cX9_numberOf 4 (some .int) "numberOf" rm_X9_numberOf K E) : Sd E K 0 q_X9_numberOf_0 := by
  have h36 : Sd E K 36 q_X9_numberOf_36 := sd_ret X (by decide +kernel : decode cX9_numberOf 36 = .ok (.ireturn, 1))
  have h35 : Sd E K 35 q_X9_numberOf_35 := sd_iald X (by decide +kernel : decode cX9_numberOf 35 = .ok (.iaload, 1)) h36
  have h34 : Sd E K 34 q_X9_numberOf_34 := sd_iload_n X (by decide +kernel : decode cX9_numberOf 34 = .ok (.iload_n 2, 1)) rfl h35
  have h33 : Sd E K 33 q_X9_numberOf_33 := sd_aald X rfl (by decide +kernel : decode cX9_numberOf 33 = .ok (.aaload, 1)) h34
  have h32 : Sd E K 32 q_X9_numberOf_32 := sd_iload_n X (by decide +kernel : decode cX9_numberOf 32 = .ok (.iload_n 1, 1)) rfl h33
  have h29 : Sd E K 29 q_X9_numberOf_29 := sd_get X (by decide +kernel : decode cX9_numberOf 29 = .ok (.getfield 11, 3)) ok_X9 (Nat.le_of_ble_eq_true rfl) wd_95 h32
  have h28 : Sd E K 28 q_X9_numberOf_28 := sd_aload_n X (by decide +kernel : decode cX9_numberOf 28 = .ok (.aload_n 0, 1)) rfl h29
  have h45 : Sd E K 45 q_X9_numberOf_45 := sd_ret X (by decide +kernel : decode cX9_numberOf 45 = .ok (.ireturn, 1))
  have h44 : Sd E K 44 q_X9_numberOf_44 := sd_iald X (by decide +kernel : decode cX9_numberOf 44 = .ok (.iaload, 1)) h45
  have h43 : Sd E K 43 q_X9_numberOf_43 := sd_iload_n X (by decide +kernel : decode cX9_numberOf 43 = .ok (.iload_n 2, 1)) rfl h44
  have h42 : Sd E K 42 q_X9_numberOf_42 := sd_aald X rfl (by decide +kernel : decode cX9_numberOf 42 = .ok (.aaload, 1)) h43
  have h41 : Sd E K 41 q_X9_numberOf_41 := sd_iload_n X (by decide +kernel : decode cX9_numberOf 41 = .ok (.iload_n 1, 1)) rfl h42
  have h38 : Sd E K 38 q_X9_numberOf_38 := sd_get X (by decide +kernel : decode cX9_numberOf 38 = .ok (.getfield 16, 3)) ok_X9 (Nat.le_of_ble_eq_true rfl) wd_98 h41
  have h37 : Sd E K 37 q_X9_numberOf_37 := sd_aload_n X (by decide +kernel : decode cX9_numberOf 37 = .ok (.aload_n 0, 1)) rfl h38
  have h54 : Sd E K 54 q_X9_numberOf_54 := sd_ret X (by decide +kernel : decode cX9_numberOf 54 = .ok (.ireturn, 1))
  have h53 : Sd E K 53 q_X9_numberOf_53 := sd_iald X (by decide +kernel : decode cX9_numberOf 53 = .ok (.iaload, 1)) h54
  have h52 : Sd E K 52 q_X9_numberOf_52 := sd_iload_n X (by decide +kernel : decode cX9_numberOf 52 = .ok (.iload_n 2, 1)) rfl h53
  have h51 : Sd E K 51 q_X9_numberOf_51 := sd_aald X rfl (by decide +kernel : decode cX9_numberOf 51 = .ok (.aaload, 1)) h52
  have h50 : Sd E K 50 q_X9_numberOf_50 := sd_iload_n X (by decide +kernel : decode cX9_numberOf 50 = .ok (.iload_n 1, 1)) rfl h51
  have h47 : Sd E K 47 q_X9_numberOf_47 := sd_get X (by decide +kernel : decode cX9_numberOf 47 = .ok (.getfield 19, 3)) ok_X9 (Nat.le_of_ble_eq_true rfl) wd_103 h50
  have h46 : Sd E K 46 q_X9_numberOf_46 := sd_aload_n X (by decide +kernel : decode cX9_numberOf 46 = .ok (.aload_n 0, 1)) rfl h47
  have h63 : Sd E K 63 q_X9_numberOf_63 := sd_ret X (by decide +kernel : decode cX9_numberOf 63 = .ok (.ireturn, 1))
  have h62 : Sd E K 62 q_X9_numberOf_62 := sd_iald X (by decide +kernel : decode cX9_numberOf 62 = .ok (.iaload, 1)) h63
  have h61 : Sd E K 61 q_X9_numberOf_61 := sd_iload_n X (by decide +kernel : decode cX9_numberOf 61 = .ok (.iload_n 2, 1)) rfl h62
  have h60 : Sd E K 60 q_X9_numberOf_60 := sd_aald X rfl (by decide +kernel : decode cX9_numberOf 60 = .ok (.aaload, 1)) h61
  have h59 : Sd E K 59 q_X9_numberOf_59 := sd_iload_n X (by decide +kernel : decode cX9_numberOf 59 = .ok (.iload_n 1, 1)) rfl h60
  have h56 : Sd E K 56 q_X9_numberOf_56 := sd_get X (by decide +kernel : decode cX9_numberOf 56 = .ok (.getfield 22, 3)) ok_X9 (Nat.le_of_ble_eq_true rfl) wd_105 h59
  have h55 : Sd E K 55 q_X9_numberOf_55 := sd_aload_n X (by decide +kernel : decode cX9_numberOf 55 = .ok (.aload_n 0, 1)) rfl h56
  have h1 : Sd E K 1 q_X9_numberOf_1 := sd_tab (tgts := [28, 37, 46]) X (by decide +kernel : decode cX9_numberOf 1 = .ok (.tableswitch 54 0 2 #[27, 36, 45], 27)) (by decide) rfl (by decide +kernel) (by decide) (fun i k t h1 h2 => by
    match i with
    | 0 => cases h1; cases h2; exact h28
    | 1 => cases h1; cases h2; exact h37
    | 2 => cases h1; cases h2; exact h46
    | n + 3 => simp at h1) h55
  have h0 : Sd E K 0 q_X9_numberOf_0 := sd_iload_n X (by decide +kernel : decode cX9_numberOf 0 = .ok (.iload_n 3, 1)) rfl h1
  exact h0
set_option maxHeartbeats 4000000 in
set_option maxRecDepth 100000 in
theorem ct_X9_numberOf {s0 : State} {D : va_G} {ids : Nat → ClassId} {V : Nat → Nat} {l : Launch} (G : GG s0 D ids V) : CT s0 D ids l yX9_numberOf cX9_numberOf 4 (some .int) rm_X9_numberOf Sp_X9_numberOf := CT.of (by decide +kernel) G.k (by
  rintro as z f K E ⟨a, i, j, w, M, rfl, hi, hj, hw, hR, hK⟩ X
  refine ⟨Nat.le_of_ble_eq_true rfl, by simp [Value.category], t_X9_numberOf G X _ _ _ _ ?_⟩
  obtain ⟨h0, ⟨h1, h2⟩, ⟨h3, h4⟩, ⟨h5, h6⟩, ⟨h7, h8⟩⟩ := id hR
  have g2 := h2 i hi
  have g4 := h4 i hi
  have g6 := h6 i hi
  have g8 := h8 i hi
  rcases (show w = 0 ∨ w = 1 ∨ w = 2 ∨ w = 3 by omega) with rfl | rfl | rfl | rfl
  · simp (disch := omega) only [q_X9_numberOf_0, q_X9_numberOf_1, q_X9_numberOf_28, q_X9_numberOf_29, q_X9_numberOf_32, q_X9_numberOf_33, q_X9_numberOf_34, q_X9_numberOf_35, q_X9_numberOf_36, q_X9_numberOf_37, q_X9_numberOf_38, q_X9_numberOf_41, q_X9_numberOf_42, q_X9_numberOf_43, q_X9_numberOf_44, q_X9_numberOf_45, q_X9_numberOf_46, q_X9_numberOf_47, q_X9_numberOf_50, q_X9_numberOf_51, q_X9_numberOf_52, q_X9_numberOf_53, q_X9_numberOf_54, q_X9_numberOf_55, q_X9_numberOf_56, q_X9_numberOf_59, q_X9_numberOf_60, q_X9_numberOf_61, q_X9_numberOf_62, q_X9_numberOf_63, xpush, xiload, xaload, xlload, xfload, xdload, lkill, xistore, xastore, xfstore, xlstore, xdstore, xiinc, xbin, xdiv, xun, xlbin, xi2l, xi2f, xi2d, xlcmp, xfcmp, xdcmp, xfdiv, xddiv, c1, xdup, xpop, xdup_x1, xdup2, xif, xicmp, xtab, xtabL, xget, xput, xald, xast, xalen, xnew, xnewa, c1s, recvOk, xcall, kont, xret, xlret, xfret, xdret, xaret, xvret, xs, xnewq, xastq, xcopy, xcopyF, xobj, xmax, xmin, xdead, xpushq, xmna, ls0, List.map_cons, List.map_nil, List.length_cons, List.length_nil, List.replicate, List.append_nil, List.cons_append, List.nil_append, List.getElem?_cons_zero, List.getElem?_cons_succ, List.getElem?_nil, List.set_cons_zero, List.set_cons_succ, List.take_succ_cons, List.take_zero, List.drop_succ_cons, List.drop_zero, List.reverse_cons, List.reverse_nil, List.sum_cons, List.sum_nil, Value.category, Option.toList_some, Option.toList_none, Nat.reduceAdd, Nat.reduceSub, Nat.reduceLT, Nat.reduceLeDiff, Nat.zero_add, Nat.le_refl, true_and, and_true, Nat.sub_zero, Nat.zero_lt_succ, Nat.zero_le, Nat.not_lt_zero, Nat.reduceEqDiff, Nat.one_ne_zero, nI_toInt, Int.reduceEq, Int.reduceAdd, Int.reduceLT, Int.reduceLE, Int.cast_ofNat_Int, reduceIte, or_false, false_or, eq_self, or_true, true_or, or_self, nI_clamp, vp_in_nI, nI_ltI, nI_leI, nI_eq, nI_add, nI_zero9, nI_nlt0, nI_le0, nI_lt0, arG, va_rf, not_false_eq_true, not_true_eq_false, false_implies, true_implies, implies_true, ne_eq, okv_int, okv_z0, okv_z1, okv_zN, okv_ref, okv_arr, okv_null, vn_z0, vn_z1, vn_zN, nr_int, nr_z, va_up_self, up_fr, rw1_j, rw1_up, h0, h1, h3, h5, h7, g2, g4, g6, g8, hi]
    exact hK
  · simp (disch := omega) only [q_X9_numberOf_0, q_X9_numberOf_1, q_X9_numberOf_28, q_X9_numberOf_29, q_X9_numberOf_32, q_X9_numberOf_33, q_X9_numberOf_34, q_X9_numberOf_35, q_X9_numberOf_36, q_X9_numberOf_37, q_X9_numberOf_38, q_X9_numberOf_41, q_X9_numberOf_42, q_X9_numberOf_43, q_X9_numberOf_44, q_X9_numberOf_45, q_X9_numberOf_46, q_X9_numberOf_47, q_X9_numberOf_50, q_X9_numberOf_51, q_X9_numberOf_52, q_X9_numberOf_53, q_X9_numberOf_54, q_X9_numberOf_55, q_X9_numberOf_56, q_X9_numberOf_59, q_X9_numberOf_60, q_X9_numberOf_61, q_X9_numberOf_62, q_X9_numberOf_63, xpush, xiload, xaload, xlload, xfload, xdload, lkill, xistore, xastore, xfstore, xlstore, xdstore, xiinc, xbin, xdiv, xun, xlbin, xi2l, xi2f, xi2d, xlcmp, xfcmp, xdcmp, xfdiv, xddiv, c1, xdup, xpop, xdup_x1, xdup2, xif, xicmp, xtab, xtabL, xget, xput, xald, xast, xalen, xnew, xnewa, c1s, recvOk, xcall, kont, xret, xlret, xfret, xdret, xaret, xvret, xs, xnewq, xastq, xcopy, xcopyF, xobj, xmax, xmin, xdead, xpushq, xmna, ls0, List.map_cons, List.map_nil, List.length_cons, List.length_nil, List.replicate, List.append_nil, List.cons_append, List.nil_append, List.getElem?_cons_zero, List.getElem?_cons_succ, List.getElem?_nil, List.set_cons_zero, List.set_cons_succ, List.take_succ_cons, List.take_zero, List.drop_succ_cons, List.drop_zero, List.reverse_cons, List.reverse_nil, List.sum_cons, List.sum_nil, Value.category, Option.toList_some, Option.toList_none, Nat.reduceAdd, Nat.reduceSub, Nat.reduceLT, Nat.reduceLeDiff, Nat.zero_add, Nat.le_refl, true_and, and_true, Nat.sub_zero, Nat.zero_lt_succ, Nat.zero_le, Nat.not_lt_zero, Nat.reduceEqDiff, Nat.one_ne_zero, nI_toInt, Int.reduceEq, Int.reduceAdd, Int.reduceLT, Int.reduceLE, Int.cast_ofNat_Int, reduceIte, or_false, false_or, eq_self, or_true, true_or, or_self, nI_clamp, vp_in_nI, nI_ltI, nI_leI, nI_eq, nI_add, nI_zero9, nI_nlt0, nI_le0, nI_lt0, arG, va_rf, not_false_eq_true, not_true_eq_false, false_implies, true_implies, implies_true, ne_eq, okv_int, okv_z0, okv_z1, okv_zN, okv_ref, okv_arr, okv_null, vn_z0, vn_z1, vn_zN, nr_int, nr_z, va_up_self, up_fr, rw1_j, rw1_up, h0, h1, h3, h5, h7, g2, g4, g6, g8, hi]
    exact hK
  · simp (disch := omega) only [q_X9_numberOf_0, q_X9_numberOf_1, q_X9_numberOf_28, q_X9_numberOf_29, q_X9_numberOf_32, q_X9_numberOf_33, q_X9_numberOf_34, q_X9_numberOf_35, q_X9_numberOf_36, q_X9_numberOf_37, q_X9_numberOf_38, q_X9_numberOf_41, q_X9_numberOf_42, q_X9_numberOf_43, q_X9_numberOf_44, q_X9_numberOf_45, q_X9_numberOf_46, q_X9_numberOf_47, q_X9_numberOf_50, q_X9_numberOf_51, q_X9_numberOf_52, q_X9_numberOf_53, q_X9_numberOf_54, q_X9_numberOf_55, q_X9_numberOf_56, q_X9_numberOf_59, q_X9_numberOf_60, q_X9_numberOf_61, q_X9_numberOf_62, q_X9_numberOf_63, xpush, xiload, xaload, xlload, xfload, xdload, lkill, xistore, xastore, xfstore, xlstore, xdstore, xiinc, xbin, xdiv, xun, xlbin, xi2l, xi2f, xi2d, xlcmp, xfcmp, xdcmp, xfdiv, xddiv, c1, xdup, xpop, xdup_x1, xdup2, xif, xicmp, xtab, xtabL, xget, xput, xald, xast, xalen, xnew, xnewa, c1s, recvOk, xcall, kont, xret, xlret, xfret, xdret, xaret, xvret, xs, xnewq, xastq, xcopy, xcopyF, xobj, xmax, xmin, xdead, xpushq, xmna, ls0, List.map_cons, List.map_nil, List.length_cons, List.length_nil, List.replicate, List.append_nil, List.cons_append, List.nil_append, List.getElem?_cons_zero, List.getElem?_cons_succ, List.getElem?_nil, List.set_cons_zero, List.set_cons_succ, List.take_succ_cons, List.take_zero, List.drop_succ_cons, List.drop_zero, List.reverse_cons, List.reverse_nil, List.sum_cons, List.sum_nil, Value.category, Option.toList_some, Option.toList_none, Nat.reduceAdd, Nat.reduceSub, Nat.reduceLT, Nat.reduceLeDiff, Nat.zero_add, Nat.le_refl, true_and, and_true, Nat.sub_zero, Nat.zero_lt_succ, Nat.zero_le, Nat.not_lt_zero, Nat.reduceEqDiff, Nat.one_ne_zero, nI_toInt, Int.reduceEq, Int.reduceAdd, Int.reduceLT, Int.reduceLE, Int.cast_ofNat_Int, reduceIte, or_false, false_or, eq_self, or_true, true_or, or_self, nI_clamp, vp_in_nI, nI_ltI, nI_leI, nI_eq, nI_add, nI_zero9, nI_nlt0, nI_le0, nI_lt0, arG, va_rf, not_false_eq_true, not_true_eq_false, false_implies, true_implies, implies_true, ne_eq, okv_int, okv_z0, okv_z1, okv_zN, okv_ref, okv_arr, okv_null, vn_z0, vn_z1, vn_zN, nr_int, nr_z, va_up_self, up_fr, rw1_j, rw1_up, h0, h1, h3, h5, h7, g2, g4, g6, g8, hi]
    exact hK
  · simp (disch := omega) only [q_X9_numberOf_0, q_X9_numberOf_1, q_X9_numberOf_28, q_X9_numberOf_29, q_X9_numberOf_32, q_X9_numberOf_33, q_X9_numberOf_34, q_X9_numberOf_35, q_X9_numberOf_36, q_X9_numberOf_37, q_X9_numberOf_38, q_X9_numberOf_41, q_X9_numberOf_42, q_X9_numberOf_43, q_X9_numberOf_44, q_X9_numberOf_45, q_X9_numberOf_46, q_X9_numberOf_47, q_X9_numberOf_50, q_X9_numberOf_51, q_X9_numberOf_52, q_X9_numberOf_53, q_X9_numberOf_54, q_X9_numberOf_55, q_X9_numberOf_56, q_X9_numberOf_59, q_X9_numberOf_60, q_X9_numberOf_61, q_X9_numberOf_62, q_X9_numberOf_63, xpush, xiload, xaload, xlload, xfload, xdload, lkill, xistore, xastore, xfstore, xlstore, xdstore, xiinc, xbin, xdiv, xun, xlbin, xi2l, xi2f, xi2d, xlcmp, xfcmp, xdcmp, xfdiv, xddiv, c1, xdup, xpop, xdup_x1, xdup2, xif, xicmp, xtab, xtabL, xget, xput, xald, xast, xalen, xnew, xnewa, c1s, recvOk, xcall, kont, xret, xlret, xfret, xdret, xaret, xvret, xs, xnewq, xastq, xcopy, xcopyF, xobj, xmax, xmin, xdead, xpushq, xmna, ls0, List.map_cons, List.map_nil, List.length_cons, List.length_nil, List.replicate, List.append_nil, List.cons_append, List.nil_append, List.getElem?_cons_zero, List.getElem?_cons_succ, List.getElem?_nil, List.set_cons_zero, List.set_cons_succ, List.take_succ_cons, List.take_zero, List.drop_succ_cons, List.drop_zero, List.reverse_cons, List.reverse_nil, List.sum_cons, List.sum_nil, Value.category, Option.toList_some, Option.toList_none, Nat.reduceAdd, Nat.reduceSub, Nat.reduceLT, Nat.reduceLeDiff, Nat.zero_add, Nat.le_refl, true_and, and_true, Nat.sub_zero, Nat.zero_lt_succ, Nat.zero_le, Nat.not_lt_zero, Nat.reduceEqDiff, Nat.one_ne_zero, nI_toInt, Int.reduceEq, Int.reduceAdd, Int.reduceLT, Int.reduceLE, Int.cast_ofNat_Int, reduceIte, or_false, false_or, eq_self, or_true, true_or, or_self, nI_clamp, vp_in_nI, nI_ltI, nI_leI, nI_eq, nI_add, nI_zero9, nI_nlt0, nI_le0, nI_lt0, arG, va_rf, not_false_eq_true, not_true_eq_false, false_implies, true_implies, implies_true, ne_eq, okv_int, okv_z0, okv_z1, okv_zN, okv_ref, okv_arr, okv_null, vn_z0, vn_z1, vn_zN, nr_int, nr_z, va_up_self, up_fr, rw1_j, rw1_up, h0, h1, h3, h5, h7, g2, g4, g6, g8, hi]
    exact hK)
abbrev Sp_X8_join : Spt := fun as z f K => ∃ (a i j d : Nat) (M : Cm), as = [.ref a, .int (nI i), .int (nI j), .int (nI d)] ∧ i < 8 ∧ j < 8 ∧ isRd f a M ∧ ∀ f', isRd f' a (mup (mup (mup M 1 i j d) 1 j i d) 11 0 0 (M 11 0 0 + 1)) → (∀ q, q < a ∨ a + 10 ≤ q → f' q = f q) → K none z f'
def rm_X8_join : Room := { frames := 0, cells := 0, slots := 0, locals := 0 }
def q_X8_join_28 (ls : Ls) (st : List Value) (z : Zz) (f : Fm) (E : Ej) (R : Kr) : Prop := xvret ls st z f E R
def q_X8_join_25 (ls : Ls) (st : List Value) (z : Zz) (f : Fm) (E : Ej) (R : Kr) : Prop := xput 7 1 .int q_X8_join_28 ls st z f E R
def q_X8_join_24 (ls : Ls) (st : List Value) (z : Zz) (f : Fm) (E : Ej) (R : Kr) : Prop := xbin (fun x y => x + y) q_X8_join_25 ls st z f E R
def q_X8_join_23 (ls : Ls) (st : List Value) (z : Zz) (f : Fm) (E : Ej) (R : Kr) : Prop := xpush (.int (nI 1)) q_X8_join_24 ls st z f E R
def q_X8_join_20 (ls : Ls) (st : List Value) (z : Zz) (f : Fm) (E : Ej) (R : Kr) : Prop := xget 7 1 q_X8_join_23 ls st z f E R
def q_X8_join_19 (ls : Ls) (st : List Value) (z : Zz) (f : Fm) (E : Ej) (R : Kr) : Prop := xdup q_X8_join_20 ls st z f E R
def q_X8_join_18 (ls : Ls) (st : List Value) (z : Zz) (f : Fm) (E : Ej) (R : Kr) : Prop := xaload 0 q_X8_join_19 ls st z f E R
def q_X8_join_17 (ls : Ls) (st : List Value) (z : Zz) (f : Fm) (E : Ej) (R : Kr) : Prop := xast 1 q_X8_join_18 ls st z f E R
def q_X8_join_16 (ls : Ls) (st : List Value) (z : Zz) (f : Fm) (E : Ej) (R : Kr) : Prop := xiload 3 q_X8_join_17 ls st z f E R
def q_X8_join_15 (ls : Ls) (st : List Value) (z : Zz) (f : Fm) (E : Ej) (R : Kr) : Prop := xiload 1 q_X8_join_16 ls st z f E R
def q_X8_join_14 (ls : Ls) (st : List Value) (z : Zz) (f : Fm) (E : Ej) (R : Kr) : Prop := xald 4 4 q_X8_join_15 ls st z f E R
def q_X8_join_13 (ls : Ls) (st : List Value) (z : Zz) (f : Fm) (E : Ej) (R : Kr) : Prop := xiload 2 q_X8_join_14 ls st z f E R
def q_X8_join_10 (ls : Ls) (st : List Value) (z : Zz) (f : Fm) (E : Ej) (R : Kr) : Prop := xget 7 0 q_X8_join_13 ls st z f E R
def q_X8_join_9 (ls : Ls) (st : List Value) (z : Zz) (f : Fm) (E : Ej) (R : Kr) : Prop := xaload 0 q_X8_join_10 ls st z f E R
def q_X8_join_8 (ls : Ls) (st : List Value) (z : Zz) (f : Fm) (E : Ej) (R : Kr) : Prop := xast 1 q_X8_join_9 ls st z f E R
def q_X8_join_7 (ls : Ls) (st : List Value) (z : Zz) (f : Fm) (E : Ej) (R : Kr) : Prop := xiload 3 q_X8_join_8 ls st z f E R
def q_X8_join_6 (ls : Ls) (st : List Value) (z : Zz) (f : Fm) (E : Ej) (R : Kr) : Prop := xiload 2 q_X8_join_7 ls st z f E R
def q_X8_join_5 (ls : Ls) (st : List Value) (z : Zz) (f : Fm) (E : Ej) (R : Kr) : Prop := xald 4 4 q_X8_join_6 ls st z f E R
def q_X8_join_4 (ls : Ls) (st : List Value) (z : Zz) (f : Fm) (E : Ej) (R : Kr) : Prop := xiload 1 q_X8_join_5 ls st z f E R
def q_X8_join_1 (ls : Ls) (st : List Value) (z : Zz) (f : Fm) (E : Ej) (R : Kr) : Prop := xget 7 0 q_X8_join_4 ls st z f E R
def q_X8_join_0 (ls : Ls) (st : List Value) (z : Zz) (f : Fm) (E : Ej) (R : Kr) : Prop := xaload 0 q_X8_join_1 ls st z f E R
set_option maxRecDepth 100000 in
theorem t_X8_join {s0 : State} {D : va_G} {ids : Nat → ClassId} {V : Nat → Nat} {l : Launch} {K : Kr} {E : Ej} (G : GG s0 D ids V) (X : EnX s0 D ids l RX8 cX8_join 4 none "join" rm_X8_join K E) : Sd E K 0 q_X8_join_0 := by
  have h28 : Sd E K 28 q_X8_join_28 := sd_vret X (by decide +kernel : decode cX8_join 28 = .ok (.return_, 1))
  have h25 : Sd E K 25 q_X8_join_25 := sd_put X (by decide +kernel : decode cX8_join 25 = .ok (.putfield 16, 3)) ok_X8 (Nat.le_of_ble_eq_true rfl) rfl rfl wd_78 h28
  have h24 : Sd E K 24 q_X8_join_24 := sd_iadd X (by decide +kernel : decode cX8_join 24 = .ok (.iadd, 1)) h25
  have h23 : Sd E K 23 q_X8_join_23 := sd_iconst X (by decide +kernel : decode cX8_join 23 = .ok (.iconst 1, 1)) (by decide +kernel) h24
  have h20 : Sd E K 20 q_X8_join_20 := sd_get X (by decide +kernel : decode cX8_join 20 = .ok (.getfield 16, 3)) ok_X8 (Nat.le_of_ble_eq_true rfl) wd_78 h23
  have h19 : Sd E K 19 q_X8_join_19 := sd_dup X (by decide +kernel : decode cX8_join 19 = .ok (.dup, 1)) h20
  have h18 : Sd E K 18 q_X8_join_18 := sd_aload_n X (by decide +kernel : decode cX8_join 18 = .ok (.aload_n 0, 1)) rfl h19
  have h17 : Sd E K 17 q_X8_join_17 := sd_iast X (by decide +kernel : decode cX8_join 17 = .ok (.iastore, 1)) h18
  have h16 : Sd E K 16 q_X8_join_16 := sd_iload_n X (by decide +kernel : decode cX8_join 16 = .ok (.iload_n 3, 1)) rfl h17
  have h15 : Sd E K 15 q_X8_join_15 := sd_iload_n X (by decide +kernel : decode cX8_join 15 = .ok (.iload_n 1, 1)) rfl h16
  have h14 : Sd E K 14 q_X8_join_14 := sd_aald X rfl (by decide +kernel : decode cX8_join 14 = .ok (.aaload, 1)) h15
  have h13 : Sd E K 13 q_X8_join_13 := sd_iload_n X (by decide +kernel : decode cX8_join 13 = .ok (.iload_n 2, 1)) rfl h14
  have h10 : Sd E K 10 q_X8_join_10 := sd_get X (by decide +kernel : decode cX8_join 10 = .ok (.getfield 11, 3)) ok_X8 (Nat.le_of_ble_eq_true rfl) wd_77 h13
  have h9 : Sd E K 9 q_X8_join_9 := sd_aload_n X (by decide +kernel : decode cX8_join 9 = .ok (.aload_n 0, 1)) rfl h10
  have h8 : Sd E K 8 q_X8_join_8 := sd_iast X (by decide +kernel : decode cX8_join 8 = .ok (.iastore, 1)) h9
  have h7 : Sd E K 7 q_X8_join_7 := sd_iload_n X (by decide +kernel : decode cX8_join 7 = .ok (.iload_n 3, 1)) rfl h8
  have h6 : Sd E K 6 q_X8_join_6 := sd_iload_n X (by decide +kernel : decode cX8_join 6 = .ok (.iload_n 2, 1)) rfl h7
  have h5 : Sd E K 5 q_X8_join_5 := sd_aald X rfl (by decide +kernel : decode cX8_join 5 = .ok (.aaload, 1)) h6
  have h4 : Sd E K 4 q_X8_join_4 := sd_iload_n X (by decide +kernel : decode cX8_join 4 = .ok (.iload_n 1, 1)) rfl h5
  have h1 : Sd E K 1 q_X8_join_1 := sd_get X (by decide +kernel : decode cX8_join 1 = .ok (.getfield 11, 3)) ok_X8 (Nat.le_of_ble_eq_true rfl) wd_77 h4
  have h0 : Sd E K 0 q_X8_join_0 := sd_aload_n X (by decide +kernel : decode cX8_join 0 = .ok (.aload_n 0, 1)) rfl h1
  exact h0
set_option maxHeartbeats 4000000 in
set_option maxRecDepth 100000 in
theorem ct_X8_join {s0 : State} {D : va_G} {ids : Nat → ClassId} {V : Nat → Nat} {l : Launch} (G : GG s0 D ids V) : CT s0 D ids l yX8_join cX8_join 4 none rm_X8_join Sp_X8_join := CT.of (by decide +kernel) G.k (by
  rintro as z f K E ⟨a, i, j, d, M, rfl, hi, hj, hR, hK⟩ X
  refine ⟨Nat.le_of_ble_eq_true rfl, by simp [Value.category], t_X8_join G X _ _ _ _ ?_⟩
  obtain ⟨h0, ⟨h1, h2⟩⟩ := id hR
  have g2 := h2 i hi
  have h3 := (hR.2.set (j := j) (v := d) hi).2 j hj
  simp (disch := omega) only [q_X8_join_0, q_X8_join_1, q_X8_join_4, q_X8_join_5, q_X8_join_6, q_X8_join_7, q_X8_join_8, q_X8_join_9, q_X8_join_10, q_X8_join_13, q_X8_join_14, q_X8_join_15, q_X8_join_16, q_X8_join_17, q_X8_join_18, q_X8_join_19, q_X8_join_20, q_X8_join_23, q_X8_join_24, q_X8_join_25, q_X8_join_28, xpush, xiload, xaload, xlload, xfload, xdload, lkill, xistore, xastore, xfstore, xlstore, xdstore, xiinc, xbin, xdiv, xun, xlbin, xi2l, xi2f, xi2d, xlcmp, xfcmp, xdcmp, xfdiv, xddiv, c1, xdup, xpop, xdup_x1, xdup2, xif, xicmp, xtab, xtabL, xget, xput, xald, xast, xalen, xnew, xnewa, c1s, recvOk, xcall, kont, xret, xlret, xfret, xdret, xaret, xvret, xs, xnewq, xastq, xcopy, xcopyF, xobj, xmax, xmin, xdead, xpushq, xmna, ls0, List.map_cons, List.map_nil, List.length_cons, List.length_nil, List.replicate, List.append_nil, List.cons_append, List.nil_append, List.getElem?_cons_zero, List.getElem?_cons_succ, List.getElem?_nil, List.set_cons_zero, List.set_cons_succ, List.take_succ_cons, List.take_zero, List.drop_succ_cons, List.drop_zero, List.reverse_cons, List.reverse_nil, List.sum_cons, List.sum_nil, Value.category, Option.toList_some, Option.toList_none, Nat.reduceAdd, Nat.reduceSub, Nat.reduceLT, Nat.reduceLeDiff, Nat.zero_add, Nat.le_refl, true_and, and_true, Nat.sub_zero, Nat.zero_lt_succ, Nat.zero_le, Nat.not_lt_zero, Nat.reduceEqDiff, Nat.one_ne_zero, nI_toInt, Int.reduceEq, Int.reduceAdd, Int.reduceLT, Int.reduceLE, Int.cast_ofNat_Int, reduceIte, or_false, false_or, eq_self, or_true, true_or, or_self, nI_clamp, vp_in_nI, nI_ltI, nI_leI, nI_eq, nI_add, nI_zero9, nI_nlt0, nI_le0, nI_lt0, arG, va_rf, not_false_eq_true, not_true_eq_false, false_implies, true_implies, implies_true, ne_eq, okv_int, okv_z0, okv_z1, okv_zN, okv_ref, okv_arr, okv_null, vn_z0, vn_z1, vn_zN, nr_int, nr_z, va_up_self, up_fr, rw1_j, rw1_up, h0, h1, g2, h3, hi, hj, vn_int]
  refine hK _ ⟨?_, ?_⟩ (fun q hq => ?_)
  · rw [va_up_self, mup_eq, gup_eq, hup_eq]
  · rw [mup_ne (by decide), mup_eq, mup_eq]
    exact ((hR.2.set hi).set hj).up (by omega)
  · simp (disch := omega) only [up_fr])
abbrev Sp_X8_part : Spt := fun as z f K => ∃ (a i j : Nat) (M : Cm), as = [.ref a, .int (nI i), .int (nI j)] ∧ i < 8 ∧ j < 8 ∧ 0 < M 11 0 0 ∧ isRd f a M ∧ ∀ f', isRd f' a (mup (mup (mup M 1 i j 0) 1 j i 0) 11 0 0 (M 11 0 0 - 1)) → (∀ q, q < a ∨ a + 10 ≤ q → f' q = f q) → K none z f'
def rm_X8_part : Room := { frames := 0, cells := 0, slots := 0, locals := 0 }
def q_X8_part_28 (ls : Ls) (st : List Value) (z : Zz) (f : Fm) (E : Ej) (R : Kr) : Prop := xvret ls st z f E R
def q_X8_part_25 (ls : Ls) (st : List Value) (z : Zz) (f : Fm) (E : Ej) (R : Kr) : Prop := xput 7 1 .int q_X8_part_28 ls st z f E R
def q_X8_part_24 (ls : Ls) (st : List Value) (z : Zz) (f : Fm) (E : Ej) (R : Kr) : Prop := xbin (fun x y => x - y) q_X8_part_25 ls st z f E R
def q_X8_part_23 (ls : Ls) (st : List Value) (z : Zz) (f : Fm) (E : Ej) (R : Kr) : Prop := xpush (.int (nI 1)) q_X8_part_24 ls st z f E R
def q_X8_part_20 (ls : Ls) (st : List Value) (z : Zz) (f : Fm) (E : Ej) (R : Kr) : Prop := xget 7 1 q_X8_part_23 ls st z f E R
def q_X8_part_19 (ls : Ls) (st : List Value) (z : Zz) (f : Fm) (E : Ej) (R : Kr) : Prop := xdup q_X8_part_20 ls st z f E R
def q_X8_part_18 (ls : Ls) (st : List Value) (z : Zz) (f : Fm) (E : Ej) (R : Kr) : Prop := xaload 0 q_X8_part_19 ls st z f E R
def q_X8_part_17 (ls : Ls) (st : List Value) (z : Zz) (f : Fm) (E : Ej) (R : Kr) : Prop := xast 1 q_X8_part_18 ls st z f E R
def q_X8_part_16 (ls : Ls) (st : List Value) (z : Zz) (f : Fm) (E : Ej) (R : Kr) : Prop := xpush (.int (nI 0)) q_X8_part_17 ls st z f E R
def q_X8_part_15 (ls : Ls) (st : List Value) (z : Zz) (f : Fm) (E : Ej) (R : Kr) : Prop := xiload 1 q_X8_part_16 ls st z f E R
def q_X8_part_14 (ls : Ls) (st : List Value) (z : Zz) (f : Fm) (E : Ej) (R : Kr) : Prop := xald 4 4 q_X8_part_15 ls st z f E R
def q_X8_part_13 (ls : Ls) (st : List Value) (z : Zz) (f : Fm) (E : Ej) (R : Kr) : Prop := xiload 2 q_X8_part_14 ls st z f E R
def q_X8_part_10 (ls : Ls) (st : List Value) (z : Zz) (f : Fm) (E : Ej) (R : Kr) : Prop := xget 7 0 q_X8_part_13 ls st z f E R
def q_X8_part_9 (ls : Ls) (st : List Value) (z : Zz) (f : Fm) (E : Ej) (R : Kr) : Prop := xaload 0 q_X8_part_10 ls st z f E R
def q_X8_part_8 (ls : Ls) (st : List Value) (z : Zz) (f : Fm) (E : Ej) (R : Kr) : Prop := xast 1 q_X8_part_9 ls st z f E R
def q_X8_part_7 (ls : Ls) (st : List Value) (z : Zz) (f : Fm) (E : Ej) (R : Kr) : Prop := xpush (.int (nI 0)) q_X8_part_8 ls st z f E R
def q_X8_part_6 (ls : Ls) (st : List Value) (z : Zz) (f : Fm) (E : Ej) (R : Kr) : Prop := xiload 2 q_X8_part_7 ls st z f E R
def q_X8_part_5 (ls : Ls) (st : List Value) (z : Zz) (f : Fm) (E : Ej) (R : Kr) : Prop := xald 4 4 q_X8_part_6 ls st z f E R
def q_X8_part_4 (ls : Ls) (st : List Value) (z : Zz) (f : Fm) (E : Ej) (R : Kr) : Prop := xiload 1 q_X8_part_5 ls st z f E R
def q_X8_part_1 (ls : Ls) (st : List Value) (z : Zz) (f : Fm) (E : Ej) (R : Kr) : Prop := xget 7 0 q_X8_part_4 ls st z f E R
def q_X8_part_0 (ls : Ls) (st : List Value) (z : Zz) (f : Fm) (E : Ej) (R : Kr) : Prop := xaload 0 q_X8_part_1 ls st z f E R
set_option maxRecDepth 100000 in
theorem t_X8_part {s0 : State} {D : va_G} {ids : Nat → ClassId} {V : Nat → Nat} {l : Launch} {K : Kr} {E : Ej} (G : GG s0 D ids V) (X : EnX s0 D ids l RX8 cX8_part 3 none "part" rm_X8_part K E) : Sd E K 0 q_X8_part_0 := by
  have h28 : Sd E K 28 q_X8_part_28 := sd_vret X (by decide +kernel : decode cX8_part 28 = .ok (.return_, 1))
  have h25 : Sd E K 25 q_X8_part_25 := sd_put X (by decide +kernel : decode cX8_part 25 = .ok (.putfield 16, 3)) ok_X8 (Nat.le_of_ble_eq_true rfl) rfl rfl wd_78 h28
  have h24 : Sd E K 24 q_X8_part_24 := sd_isub X (by decide +kernel : decode cX8_part 24 = .ok (.isub, 1)) h25
  have h23 : Sd E K 23 q_X8_part_23 := sd_iconst X (by decide +kernel : decode cX8_part 23 = .ok (.iconst 1, 1)) (by decide +kernel) h24
  have h20 : Sd E K 20 q_X8_part_20 := sd_get X (by decide +kernel : decode cX8_part 20 = .ok (.getfield 16, 3)) ok_X8 (Nat.le_of_ble_eq_true rfl) wd_78 h23
  have h19 : Sd E K 19 q_X8_part_19 := sd_dup X (by decide +kernel : decode cX8_part 19 = .ok (.dup, 1)) h20
  have h18 : Sd E K 18 q_X8_part_18 := sd_aload_n X (by decide +kernel : decode cX8_part 18 = .ok (.aload_n 0, 1)) rfl h19
  have h17 : Sd E K 17 q_X8_part_17 := sd_iast X (by decide +kernel : decode cX8_part 17 = .ok (.iastore, 1)) h18
  have h16 : Sd E K 16 q_X8_part_16 := sd_iconst X (by decide +kernel : decode cX8_part 16 = .ok (.iconst 0, 1)) (by decide +kernel) h17
  have h15 : Sd E K 15 q_X8_part_15 := sd_iload_n X (by decide +kernel : decode cX8_part 15 = .ok (.iload_n 1, 1)) rfl h16
  have h14 : Sd E K 14 q_X8_part_14 := sd_aald X rfl (by decide +kernel : decode cX8_part 14 = .ok (.aaload, 1)) h15
  have h13 : Sd E K 13 q_X8_part_13 := sd_iload_n X (by decide +kernel : decode cX8_part 13 = .ok (.iload_n 2, 1)) rfl h14
  have h10 : Sd E K 10 q_X8_part_10 := sd_get X (by decide +kernel : decode cX8_part 10 = .ok (.getfield 11, 3)) ok_X8 (Nat.le_of_ble_eq_true rfl) wd_77 h13
  have h9 : Sd E K 9 q_X8_part_9 := sd_aload_n X (by decide +kernel : decode cX8_part 9 = .ok (.aload_n 0, 1)) rfl h10
  have h8 : Sd E K 8 q_X8_part_8 := sd_iast X (by decide +kernel : decode cX8_part 8 = .ok (.iastore, 1)) h9
  have h7 : Sd E K 7 q_X8_part_7 := sd_iconst X (by decide +kernel : decode cX8_part 7 = .ok (.iconst 0, 1)) (by decide +kernel) h8
  have h6 : Sd E K 6 q_X8_part_6 := sd_iload_n X (by decide +kernel : decode cX8_part 6 = .ok (.iload_n 2, 1)) rfl h7
  have h5 : Sd E K 5 q_X8_part_5 := sd_aald X rfl (by decide +kernel : decode cX8_part 5 = .ok (.aaload, 1)) h6
  have h4 : Sd E K 4 q_X8_part_4 := sd_iload_n X (by decide +kernel : decode cX8_part 4 = .ok (.iload_n 1, 1)) rfl h5
  have h1 : Sd E K 1 q_X8_part_1 := sd_get X (by decide +kernel : decode cX8_part 1 = .ok (.getfield 11, 3)) ok_X8 (Nat.le_of_ble_eq_true rfl) wd_77 h4
  have h0 : Sd E K 0 q_X8_part_0 := sd_aload_n X (by decide +kernel : decode cX8_part 0 = .ok (.aload_n 0, 1)) rfl h1
  exact h0
set_option maxHeartbeats 4000000 in
set_option maxRecDepth 100000 in
theorem ct_X8_part {s0 : State} {D : va_G} {ids : Nat → ClassId} {V : Nat → Nat} {l : Launch} (G : GG s0 D ids V) : CT s0 D ids l yX8_part cX8_part 3 none rm_X8_part Sp_X8_part := CT.of (by decide +kernel) G.k (by
  rintro as z f K E ⟨a, i, j, M, rfl, hi, hj, hM, hR, hK⟩ X
  refine ⟨Nat.le_of_ble_eq_true rfl, by simp [Value.category], t_X8_part G X _ _ _ _ ?_⟩
  obtain ⟨h0, ⟨h1, h2⟩⟩ := id hR
  have g2 := h2 i hi
  have h3 := (hR.2.set (j := j) (v := 0) hi).2 j hj
  simp (disch := omega) only [q_X8_part_0, q_X8_part_1, q_X8_part_4, q_X8_part_5, q_X8_part_6, q_X8_part_7, q_X8_part_8, q_X8_part_9, q_X8_part_10, q_X8_part_13, q_X8_part_14, q_X8_part_15, q_X8_part_16, q_X8_part_17, q_X8_part_18, q_X8_part_19, q_X8_part_20, q_X8_part_23, q_X8_part_24, q_X8_part_25, q_X8_part_28, xpush, xiload, xaload, xlload, xfload, xdload, lkill, xistore, xastore, xfstore, xlstore, xdstore, xiinc, xbin, xdiv, xun, xlbin, xi2l, xi2f, xi2d, xlcmp, xfcmp, xdcmp, xfdiv, xddiv, c1, xdup, xpop, xdup_x1, xdup2, xif, xicmp, xtab, xtabL, xget, xput, xald, xast, xalen, xnew, xnewa, c1s, recvOk, xcall, kont, xret, xlret, xfret, xdret, xaret, xvret, xs, xnewq, xastq, xcopy, xcopyF, xobj, xmax, xmin, xdead, xpushq, xmna, ls0, List.map_cons, List.map_nil, List.length_cons, List.length_nil, List.replicate, List.append_nil, List.cons_append, List.nil_append, List.getElem?_cons_zero, List.getElem?_cons_succ, List.getElem?_nil, List.set_cons_zero, List.set_cons_succ, List.take_succ_cons, List.take_zero, List.drop_succ_cons, List.drop_zero, List.reverse_cons, List.reverse_nil, List.sum_cons, List.sum_nil, Value.category, Option.toList_some, Option.toList_none, Nat.reduceAdd, Nat.reduceSub, Nat.reduceLT, Nat.reduceLeDiff, Nat.zero_add, Nat.le_refl, true_and, and_true, Nat.sub_zero, Nat.zero_lt_succ, Nat.zero_le, Nat.not_lt_zero, Nat.reduceEqDiff, Nat.one_ne_zero, nI_toInt, Int.reduceEq, Int.reduceAdd, Int.reduceLT, Int.reduceLE, Int.cast_ofNat_Int, reduceIte, or_false, false_or, eq_self, or_true, true_or, or_self, nI_clamp, vp_in_nI, nI_ltI, nI_leI, nI_eq, nI_add, nI_zero9, nI_nlt0, nI_le0, nI_lt0, arG, va_rf, not_false_eq_true, not_true_eq_false, false_implies, true_implies, implies_true, ne_eq, okv_int, okv_z0, okv_z1, okv_zN, okv_ref, okv_arr, okv_null, vn_z0, vn_z1, vn_zN, nr_int, nr_z, va_up_self, up_fr, rw1_j, rw1_up, h0, h1, g2, h3, hi, hj, vn_int, pk_sub]
  refine hK _ ⟨?_, ?_⟩ (fun q hq => ?_)
  · rw [va_up_self, mup_eq, gup_eq, hup_eq]
  · rw [mup_ne (by decide), mup_eq, mup_eq]
    exact ((hR.2.set hi).set hj).up (by omega)
  · simp (disch := omega) only [up_fr])
abbrev Sp_X8_countAt : Spt := fun as z f K => ∃ (a i : Nat) (M : Cm), as = [.ref a, .int (nI i)] ∧ i < 8 ∧ sm M ∧ isRd f a M ∧ K (some (.int (nI (cntN (fun j => 0 < M 1 i j) 8)))) z f
def rm_X8_countAt : Room := { frames := 1, cells := 0, slots := 0, locals := 22 }
def q_X8_countAt_29 (ls : Ls) (st : List Value) (z : Zz) (f : Fm) (E : Ej) (R : Kr) : Prop := xret .int ls st z f E R
def q_X8_countAt_28 (ls : Ls) (st : List Value) (z : Zz) (f : Fm) (E : Ej) (R : Kr) : Prop := xiload 2 q_X8_countAt_29 ls st z f E R
def q_X8_countAt_22 (ls : Ls) (st : List Value) (z : Zz) (f : Fm) (E : Ej) (R : Kr) : Prop := xiinc 3 (nI 1) (xs 4) ls st z f E R
def q_X8_countAt_19 (ls : Ls) (st : List Value) (z : Zz) (f : Fm) (E : Ej) (R : Kr) : Prop := xiinc 2 (nI 1) q_X8_countAt_22 ls st z f E R
def q_X8_countAt_16 (ls : Ls) (st : List Value) (z : Zz) (f : Fm) (E : Ej) (R : Kr) : Prop := xif (fun x => x = 0) q_X8_countAt_22 q_X8_countAt_19 ls st z f E R
def q_X8_countAt_13 (ls : Ls) (st : List Value) (z : Zz) (f : Fm) (E : Ej) (R : Kr) : Prop := xcall 3 8 Sp_X8_areJoined 0 0 q_X8_countAt_16 ls st z f E R
def q_X8_countAt_12 (ls : Ls) (st : List Value) (z : Zz) (f : Fm) (E : Ej) (R : Kr) : Prop := xiload 3 q_X8_countAt_13 ls st z f E R
def q_X8_countAt_11 (ls : Ls) (st : List Value) (z : Zz) (f : Fm) (E : Ej) (R : Kr) : Prop := xiload 1 q_X8_countAt_12 ls st z f E R
def q_X8_countAt_10 (ls : Ls) (st : List Value) (z : Zz) (f : Fm) (E : Ej) (R : Kr) : Prop := xaload 0 q_X8_countAt_11 ls st z f E R
def q_X8_countAt_7 (ls : Ls) (st : List Value) (z : Zz) (f : Fm) (E : Ej) (R : Kr) : Prop := xicmp (fun x y => y ≤ x) q_X8_countAt_28 q_X8_countAt_10 ls st z f E R
def q_X8_countAt_5 (ls : Ls) (st : List Value) (z : Zz) (f : Fm) (E : Ej) (R : Kr) : Prop := xpush (.int (nI 8)) q_X8_countAt_7 ls st z f E R
def q_X8_countAt_4 (ls : Ls) (st : List Value) (z : Zz) (f : Fm) (E : Ej) (R : Kr) : Prop := xiload 3 q_X8_countAt_5 ls st z f E R
def q_X8_countAt_3 (ls : Ls) (st : List Value) (z : Zz) (f : Fm) (E : Ej) (R : Kr) : Prop := xistore 3 (xs 4) ls st z f E R
def q_X8_countAt_2 (ls : Ls) (st : List Value) (z : Zz) (f : Fm) (E : Ej) (R : Kr) : Prop := xpush (.int (nI 0)) q_X8_countAt_3 ls st z f E R
def q_X8_countAt_1 (ls : Ls) (st : List Value) (z : Zz) (f : Fm) (E : Ej) (R : Kr) : Prop := xistore 2 q_X8_countAt_2 ls st z f E R
def q_X8_countAt_0 (ls : Ls) (st : List Value) (z : Zz) (f : Fm) (E : Ej) (R : Kr) : Prop := xpush (.int (nI 0)) q_X8_countAt_1 ls st z f E R
set_option maxRecDepth 100000 in
theorem t_X8_countAt {s0 : State} {D : va_G} {ids : Nat → ClassId} {V : Nat → Nat} {l : Launch} {K : Kr} {E : Ej} (G : GG s0 D ids V) (X : EnX s0 D ids l RX8 cX8_countAt 4 (some .int) "countAt" rm_X8_countAt K E) : Sd E K 0 q_X8_countAt_0 ∧ Sd E K 4 q_X8_countAt_4 := by
  have h29 : Sd E K 29 q_X8_countAt_29 := sd_ret X (by decide +kernel : decode cX8_countAt 29 = .ok (.ireturn, 1))
  have h28 : Sd E K 28 q_X8_countAt_28 := sd_iload_n X (by decide +kernel : decode cX8_countAt 28 = .ok (.iload_n 2, 1)) rfl h29
  have h25 : Sd E K 25 (xs 4) := sd_goto X (by decide +kernel : decode cX8_countAt 25 = .ok (.goto (-21), 3)) (by decide) (sd_s 4)
  have h22 : Sd E K 22 q_X8_countAt_22 := sd_iinc X (by decide +kernel : decode cX8_countAt 22 = .ok (.iinc 3 1, 3)) (by decide +kernel) h25
  have h19 : Sd E K 19 q_X8_countAt_19 := sd_iinc X (by decide +kernel : decode cX8_countAt 19 = .ok (.iinc 2 1, 3)) (by decide +kernel) h22
  have h16 : Sd E K 16 q_X8_countAt_16 := sd_if_eq X (by decide +kernel : decode cX8_countAt 16 = .ok (.ifCond .eq 6, 3)) (by decide) h22 h19
  have h13 : Sd E K 13 q_X8_countAt_13 := sd_callV (n := 2) (ci := 7) X (ct_X8_areJoined G) (by decide +kernel : decode cX8_countAt 13 = .ok (.invokevirtual 24, 3)) wd_478 wd_945 wd_476 wd_477 wd_27 (by decide +kernel) (Or.inl ⟨by decide, _, _, rfl⟩) ⟨Nat.le_of_ble_eq_true rfl, Nat.le_of_ble_eq_true rfl⟩ h16
  have h12 : Sd E K 12 q_X8_countAt_12 := sd_iload_n X (by decide +kernel : decode cX8_countAt 12 = .ok (.iload_n 3, 1)) rfl h13
  have h11 : Sd E K 11 q_X8_countAt_11 := sd_iload_n X (by decide +kernel : decode cX8_countAt 11 = .ok (.iload_n 1, 1)) rfl h12
  have h10 : Sd E K 10 q_X8_countAt_10 := sd_aload_n X (by decide +kernel : decode cX8_countAt 10 = .ok (.aload_n 0, 1)) rfl h11
  have h7 : Sd E K 7 q_X8_countAt_7 := sd_icmp_ge X (by decide +kernel : decode cX8_countAt 7 = .ok (.if_icmp .ge 21, 3)) (by decide) h28 h10
  have h5 : Sd E K 5 q_X8_countAt_5 := sd_bipush X (by decide +kernel : decode cX8_countAt 5 = .ok (.bipush 8, 2)) (by decide +kernel) h7
  have h4 : Sd E K 4 q_X8_countAt_4 := sd_iload_n X (by decide +kernel : decode cX8_countAt 4 = .ok (.iload_n 3, 1)) rfl h5
  have h3 : Sd E K 3 q_X8_countAt_3 := sd_istore_n X (by decide +kernel : decode cX8_countAt 3 = .ok (.istore_n 3, 1)) rfl (sd_s 4)
  have h2 : Sd E K 2 q_X8_countAt_2 := sd_iconst X (by decide +kernel : decode cX8_countAt 2 = .ok (.iconst 0, 1)) (by decide +kernel) h3
  have h1 : Sd E K 1 q_X8_countAt_1 := sd_istore_n X (by decide +kernel : decode cX8_countAt 1 = .ok (.istore_n 2, 1)) rfl h2
  have h0 : Sd E K 0 q_X8_countAt_0 := sd_iconst X (by decide +kernel : decode cX8_countAt 0 = .ok (.iconst 0, 1)) (by decide +kernel) h1
  exact ⟨h0, h4⟩
set_option maxHeartbeats 4000000 in
set_option maxRecDepth 100000 in
theorem ct_X8_countAt {s0 : State} {D : va_G} {ids : Nat → ClassId} {V : Nat → Nat} {l : Launch} (G : GG s0 D ids V) : CT s0 D ids l yX8_countAt cX8_countAt 4 (some .int) rm_X8_countAt Sp_X8_countAt := CT.of (by decide +kernel) G.k (by
  rintro as z f K E ⟨a, i, M, rfl, hi, hS, hR, hK⟩ X
  obtain ⟨t0, t1⟩ := t_X8_countAt G X
  refine ⟨Nat.le_of_ble_eq_true rfl, by simp [Value.category], t0 _ _ _ _ ?_⟩
  simp (disch := omega) only [q_X8_countAt_0, q_X8_countAt_1, q_X8_countAt_2, q_X8_countAt_3, q_X8_countAt_4, q_X8_countAt_5, q_X8_countAt_7, q_X8_countAt_10, q_X8_countAt_11, q_X8_countAt_12, q_X8_countAt_13, q_X8_countAt_16, q_X8_countAt_19, q_X8_countAt_22, q_X8_countAt_28, q_X8_countAt_29, xpush, xiload, xaload, xlload, xfload, xdload, lkill, xistore, xastore, xfstore, xlstore, xdstore, xiinc, xbin, xdiv, xun, xlbin, xi2l, xi2f, xi2d, xlcmp, xfcmp, xdcmp, xfdiv, xddiv, c1, xdup, xpop, xdup_x1, xdup2, xif, xicmp, xtab, xtabL, xget, xput, xald, xast, xalen, xnew, xnewa, c1s, recvOk, xcall, kont, xret, xlret, xfret, xdret, xaret, xvret, xs, xnewq, xastq, xcopy, xcopyF, xobj, xmax, xmin, xdead, xpushq, xmna, ls0, List.map_cons, List.map_nil, List.length_cons, List.length_nil, List.replicate, List.append_nil, List.cons_append, List.nil_append, List.getElem?_cons_zero, List.getElem?_cons_succ, List.getElem?_nil, List.set_cons_zero, List.set_cons_succ, List.take_succ_cons, List.take_zero, List.drop_succ_cons, List.drop_zero, List.reverse_cons, List.reverse_nil, List.sum_cons, List.sum_nil, Value.category, Option.toList_some, Option.toList_none, Nat.reduceAdd, Nat.reduceSub, Nat.reduceLT, Nat.reduceLeDiff, Nat.zero_add, Nat.le_refl, true_and, and_true, Nat.sub_zero, Nat.zero_lt_succ, Nat.zero_le, Nat.not_lt_zero, Nat.reduceEqDiff, Nat.one_ne_zero, nI_toInt, Int.reduceEq, Int.reduceAdd, Int.reduceLT, Int.reduceLE, Int.cast_ofNat_Int, reduceIte, or_false, false_or, eq_self, or_true, true_or, or_self, nI_clamp, vp_in_nI, nI_ltI, nI_leI, nI_eq, nI_add, nI_zero9, nI_nlt0, nI_le0, nI_lt0, arG, va_rf, not_false_eq_true, not_true_eq_false, false_implies, true_implies, implies_true, ne_eq, okv_int, okv_z0, okv_z1, okv_zN, okv_ref, okv_arr, okv_null, vn_z0, vn_z1, vn_zN, nr_int, nr_z, va_up_self, up_fr, rw1_j, rw1_up]
  refine dn (N := 8) (P := fun j => E 4 [some (.ref a), some (.int (nI i)), some (.int (nI (cntN (fun j => 0 < M 1 i j) j))), some (.int (nI j))] [] (z, 0, 0) f) ?_ ?_ 0 (by omega)
  · refine t1 _ _ _ _ ?_
    simp (disch := omega) only [q_X8_countAt_0, q_X8_countAt_1, q_X8_countAt_2, q_X8_countAt_3, q_X8_countAt_4, q_X8_countAt_5, q_X8_countAt_7, q_X8_countAt_10, q_X8_countAt_11, q_X8_countAt_12, q_X8_countAt_13, q_X8_countAt_16, q_X8_countAt_19, q_X8_countAt_22, q_X8_countAt_28, q_X8_countAt_29, xpush, xiload, xaload, xlload, xfload, xdload, lkill, xistore, xastore, xfstore, xlstore, xdstore, xiinc, xbin, xdiv, xun, xlbin, xi2l, xi2f, xi2d, xlcmp, xfcmp, xdcmp, xfdiv, xddiv, c1, xdup, xpop, xdup_x1, xdup2, xif, xicmp, xtab, xtabL, xget, xput, xald, xast, xalen, xnew, xnewa, c1s, recvOk, xcall, kont, xret, xlret, xfret, xdret, xaret, xvret, xs, xnewq, xastq, xcopy, xcopyF, xobj, xmax, xmin, xdead, xpushq, xmna, ls0, List.map_cons, List.map_nil, List.length_cons, List.length_nil, List.replicate, List.append_nil, List.cons_append, List.nil_append, List.getElem?_cons_zero, List.getElem?_cons_succ, List.getElem?_nil, List.set_cons_zero, List.set_cons_succ, List.take_succ_cons, List.take_zero, List.drop_succ_cons, List.drop_zero, List.reverse_cons, List.reverse_nil, List.sum_cons, List.sum_nil, Value.category, Option.toList_some, Option.toList_none, Nat.reduceAdd, Nat.reduceSub, Nat.reduceLT, Nat.reduceLeDiff, Nat.zero_add, Nat.le_refl, true_and, and_true, Nat.sub_zero, Nat.zero_lt_succ, Nat.zero_le, Nat.not_lt_zero, Nat.reduceEqDiff, Nat.one_ne_zero, nI_toInt, Int.reduceEq, Int.reduceAdd, Int.reduceLT, Int.reduceLE, Int.cast_ofNat_Int, reduceIte, or_false, false_or, eq_self, or_true, true_or, or_self, nI_clamp, vp_in_nI, nI_ltI, nI_leI, nI_eq, nI_add, nI_zero9, nI_nlt0, nI_le0, nI_lt0, arG, va_rf, not_false_eq_true, not_true_eq_false, false_implies, true_implies, implies_true, ne_eq, okv_int, okv_z0, okv_z1, okv_zN, okv_ref, okv_arr, okv_null, vn_z0, vn_z1, vn_zN, nr_int, nr_z, va_up_self, up_fr, rw1_j, rw1_up]
    exact hK
  · intro j hj ih
    refine t1 _ _ _ _ ?_
    simp (disch := omega) only [q_X8_countAt_0, q_X8_countAt_1, q_X8_countAt_2, q_X8_countAt_3, q_X8_countAt_4, q_X8_countAt_5, q_X8_countAt_7, q_X8_countAt_10, q_X8_countAt_11, q_X8_countAt_12, q_X8_countAt_13, q_X8_countAt_16, q_X8_countAt_19, q_X8_countAt_22, q_X8_countAt_28, q_X8_countAt_29, xpush, xiload, xaload, xlload, xfload, xdload, lkill, xistore, xastore, xfstore, xlstore, xdstore, xiinc, xbin, xdiv, xun, xlbin, xi2l, xi2f, xi2d, xlcmp, xfcmp, xdcmp, xfdiv, xddiv, c1, xdup, xpop, xdup_x1, xdup2, xif, xicmp, xtab, xtabL, xget, xput, xald, xast, xalen, xnew, xnewa, c1s, recvOk, xcall, kont, xret, xlret, xfret, xdret, xaret, xvret, xs, xnewq, xastq, xcopy, xcopyF, xobj, xmax, xmin, xdead, xpushq, xmna, ls0, List.map_cons, List.map_nil, List.length_cons, List.length_nil, List.replicate, List.append_nil, List.cons_append, List.nil_append, List.getElem?_cons_zero, List.getElem?_cons_succ, List.getElem?_nil, List.set_cons_zero, List.set_cons_succ, List.take_succ_cons, List.take_zero, List.drop_succ_cons, List.drop_zero, List.reverse_cons, List.reverse_nil, List.sum_cons, List.sum_nil, Value.category, Option.toList_some, Option.toList_none, Nat.reduceAdd, Nat.reduceSub, Nat.reduceLT, Nat.reduceLeDiff, Nat.zero_add, Nat.le_refl, true_and, and_true, Nat.sub_zero, Nat.zero_lt_succ, Nat.zero_le, Nat.not_lt_zero, Nat.reduceEqDiff, Nat.one_ne_zero, nI_toInt, Int.reduceEq, Int.reduceAdd, Int.reduceLT, Int.reduceLE, Int.cast_ofNat_Int, reduceIte, or_false, false_or, eq_self, or_true, true_or, or_self, nI_clamp, vp_in_nI, nI_ltI, nI_leI, nI_eq, nI_add, nI_zero9, nI_nlt0, nI_le0, nI_lt0, arG, va_rf, not_false_eq_true, not_true_eq_false, false_implies, true_implies, implies_true, ne_eq, okv_int, okv_z0, okv_z1, okv_zN, okv_ref, okv_arr, okv_null, vn_z0, vn_z1, vn_zN, nr_int, nr_z, va_up_self, up_fr, rw1_j, rw1_up, hR.1, Nat.not_le.mpr hj]
    refine ⟨a, i, j, M, rfl, hi, hj, hS.1 1 i j (by omega), hR, ?_⟩
    unfold cntN at ih
    by_cases q : 0 < M 1 i j
    · rw [if_pos q] at ih
      simp (disch := omega) only [q_X8_countAt_0, q_X8_countAt_1, q_X8_countAt_2, q_X8_countAt_3, q_X8_countAt_4, q_X8_countAt_5, q_X8_countAt_7, q_X8_countAt_10, q_X8_countAt_11, q_X8_countAt_12, q_X8_countAt_13, q_X8_countAt_16, q_X8_countAt_19, q_X8_countAt_22, q_X8_countAt_28, q_X8_countAt_29, xpush, xiload, xaload, xlload, xfload, xdload, lkill, xistore, xastore, xfstore, xlstore, xdstore, xiinc, xbin, xdiv, xun, xlbin, xi2l, xi2f, xi2d, xlcmp, xfcmp, xdcmp, xfdiv, xddiv, c1, xdup, xpop, xdup_x1, xdup2, xif, xicmp, xtab, xtabL, xget, xput, xald, xast, xalen, xnew, xnewa, c1s, recvOk, xcall, kont, xret, xlret, xfret, xdret, xaret, xvret, xs, xnewq, xastq, xcopy, xcopyF, xobj, xmax, xmin, xdead, xpushq, xmna, ls0, List.map_cons, List.map_nil, List.length_cons, List.length_nil, List.replicate, List.append_nil, List.cons_append, List.nil_append, List.getElem?_cons_zero, List.getElem?_cons_succ, List.getElem?_nil, List.set_cons_zero, List.set_cons_succ, List.take_succ_cons, List.take_zero, List.drop_succ_cons, List.drop_zero, List.reverse_cons, List.reverse_nil, List.sum_cons, List.sum_nil, Value.category, Option.toList_some, Option.toList_none, Nat.reduceAdd, Nat.reduceSub, Nat.reduceLT, Nat.reduceLeDiff, Nat.zero_add, Nat.le_refl, true_and, and_true, Nat.sub_zero, Nat.zero_lt_succ, Nat.zero_le, Nat.not_lt_zero, Nat.reduceEqDiff, Nat.one_ne_zero, nI_toInt, Int.reduceEq, Int.reduceAdd, Int.reduceLT, Int.reduceLE, Int.cast_ofNat_Int, reduceIte, or_false, false_or, eq_self, or_true, true_or, or_self, nI_clamp, vp_in_nI, nI_ltI, nI_leI, nI_eq, nI_add, nI_zero9, nI_nlt0, nI_le0, nI_lt0, arG, va_rf, not_false_eq_true, not_true_eq_false, false_implies, true_implies, implies_true, ne_eq, okv_int, okv_z0, okv_z1, okv_zN, okv_ref, okv_arr, okv_null, vn_z0, vn_z1, vn_zN, nr_int, nr_z, va_up_self, up_fr, rw1_j, rw1_up, q]
      exact ih
    · rw [if_neg q] at ih
      simp (disch := omega) only [q_X8_countAt_0, q_X8_countAt_1, q_X8_countAt_2, q_X8_countAt_3, q_X8_countAt_4, q_X8_countAt_5, q_X8_countAt_7, q_X8_countAt_10, q_X8_countAt_11, q_X8_countAt_12, q_X8_countAt_13, q_X8_countAt_16, q_X8_countAt_19, q_X8_countAt_22, q_X8_countAt_28, q_X8_countAt_29, xpush, xiload, xaload, xlload, xfload, xdload, lkill, xistore, xastore, xfstore, xlstore, xdstore, xiinc, xbin, xdiv, xun, xlbin, xi2l, xi2f, xi2d, xlcmp, xfcmp, xdcmp, xfdiv, xddiv, c1, xdup, xpop, xdup_x1, xdup2, xif, xicmp, xtab, xtabL, xget, xput, xald, xast, xalen, xnew, xnewa, c1s, recvOk, xcall, kont, xret, xlret, xfret, xdret, xaret, xvret, xs, xnewq, xastq, xcopy, xcopyF, xobj, xmax, xmin, xdead, xpushq, xmna, ls0, List.map_cons, List.map_nil, List.length_cons, List.length_nil, List.replicate, List.append_nil, List.cons_append, List.nil_append, List.getElem?_cons_zero, List.getElem?_cons_succ, List.getElem?_nil, List.set_cons_zero, List.set_cons_succ, List.take_succ_cons, List.take_zero, List.drop_succ_cons, List.drop_zero, List.reverse_cons, List.reverse_nil, List.sum_cons, List.sum_nil, Value.category, Option.toList_some, Option.toList_none, Nat.reduceAdd, Nat.reduceSub, Nat.reduceLT, Nat.reduceLeDiff, Nat.zero_add, Nat.le_refl, true_and, and_true, Nat.sub_zero, Nat.zero_lt_succ, Nat.zero_le, Nat.not_lt_zero, Nat.reduceEqDiff, Nat.one_ne_zero, nI_toInt, Int.reduceEq, Int.reduceAdd, Int.reduceLT, Int.reduceLE, Int.cast_ofNat_Int, reduceIte, or_false, false_or, eq_self, or_true, true_or, or_self, nI_clamp, vp_in_nI, nI_ltI, nI_leI, nI_eq, nI_add, nI_zero9, nI_nlt0, nI_le0, nI_lt0, arG, va_rf, not_false_eq_true, not_true_eq_false, false_implies, true_implies, implies_true, ne_eq, okv_int, okv_z0, okv_z1, okv_zN, okv_ref, okv_arr, okv_null, vn_z0, vn_z1, vn_zN, nr_int, nr_z, va_up_self, up_fr, rw1_j, rw1_up, q]
      exact ih)
abbrev Sp_X12_copyRows : Spt := fun as z f K => ∃ (a b : Nat) (g h : Nat → Nat → Nat), as = [.ref a, .ref b] ∧ isGr f a g ∧ isGr f b h ∧ (a + 9 ≤ b ∨ b + 9 ≤ a) ∧ ∀ f', isGr f' b g → (∀ q, q < b ∨ b + 9 ≤ q → f' q = f q) → K none z f'
def rm_X12_copyRows : Room := { frames := 1, cells := 0, slots := 0, locals := 26 }
def q_X12_copyRows_27 (ls : Ls) (st : List Value) (z : Zz) (f : Fm) (E : Ej) (R : Kr) : Prop := xvret ls st z f E R
def q_X12_copyRows_21 (ls : Ls) (st : List Value) (z : Zz) (f : Fm) (E : Ej) (R : Kr) : Prop := xiinc 2 (nI 1) (xs 2) ls st z f E R
def q_X12_copyRows_18 (ls : Ls) (st : List Value) (z : Zz) (f : Fm) (E : Ej) (R : Kr) : Prop := xcopyF 1 q_X12_copyRows_21 ls st z f E R
def q_X12_copyRows_16 (ls : Ls) (st : List Value) (z : Zz) (f : Fm) (E : Ej) (R : Kr) : Prop := xpush (.int (nI 8)) q_X12_copyRows_18 ls st z f E R
def q_X12_copyRows_15 (ls : Ls) (st : List Value) (z : Zz) (f : Fm) (E : Ej) (R : Kr) : Prop := xpush (.int (nI 0)) q_X12_copyRows_16 ls st z f E R
def q_X12_copyRows_14 (ls : Ls) (st : List Value) (z : Zz) (f : Fm) (E : Ej) (R : Kr) : Prop := xald 4 4 q_X12_copyRows_15 ls st z f E R
def q_X12_copyRows_13 (ls : Ls) (st : List Value) (z : Zz) (f : Fm) (E : Ej) (R : Kr) : Prop := xiload 2 q_X12_copyRows_14 ls st z f E R
def q_X12_copyRows_12 (ls : Ls) (st : List Value) (z : Zz) (f : Fm) (E : Ej) (R : Kr) : Prop := xaload 1 q_X12_copyRows_13 ls st z f E R
def q_X12_copyRows_11 (ls : Ls) (st : List Value) (z : Zz) (f : Fm) (E : Ej) (R : Kr) : Prop := xpush (.int (nI 0)) q_X12_copyRows_12 ls st z f E R
def q_X12_copyRows_10 (ls : Ls) (st : List Value) (z : Zz) (f : Fm) (E : Ej) (R : Kr) : Prop := xald 4 4 q_X12_copyRows_11 ls st z f E R
def q_X12_copyRows_9 (ls : Ls) (st : List Value) (z : Zz) (f : Fm) (E : Ej) (R : Kr) : Prop := xiload 2 q_X12_copyRows_10 ls st z f E R
def q_X12_copyRows_8 (ls : Ls) (st : List Value) (z : Zz) (f : Fm) (E : Ej) (R : Kr) : Prop := xaload 0 q_X12_copyRows_9 ls st z f E R
def q_X12_copyRows_5 (ls : Ls) (st : List Value) (z : Zz) (f : Fm) (E : Ej) (R : Kr) : Prop := xicmp (fun x y => y ≤ x) q_X12_copyRows_27 q_X12_copyRows_8 ls st z f E R
def q_X12_copyRows_3 (ls : Ls) (st : List Value) (z : Zz) (f : Fm) (E : Ej) (R : Kr) : Prop := xpush (.int (nI 8)) q_X12_copyRows_5 ls st z f E R
def q_X12_copyRows_2 (ls : Ls) (st : List Value) (z : Zz) (f : Fm) (E : Ej) (R : Kr) : Prop := xiload 2 q_X12_copyRows_3 ls st z f E R
def q_X12_copyRows_1 (ls : Ls) (st : List Value) (z : Zz) (f : Fm) (E : Ej) (R : Kr) : Prop := xistore 2 (xs 2) ls st z f E R
def q_X12_copyRows_0 (ls : Ls) (st : List Value) (z : Zz) (f : Fm) (E : Ej) (R : Kr) : Prop := xpush (.int (nI 0)) q_X12_copyRows_1 ls st z f E R
set_option maxRecDepth 100000 in
theorem t_X12_copyRows {s0 : State} {D : va_G} {ids : Nat → ClassId} {V : Nat → Nat} {l : Launch} {K : Kr} {E : Ej} (G : GG s0 D ids V) (X : EnX s0 D ids l RX12 cX12_copyRows 3 none "copyRows" rm_X12_copyRows K E) : Sd E K 0 q_X12_copyRows_0 ∧ Sd E K 2 q_X12_copyRows_2 := by
  have h27 : Sd E K 27 q_X12_copyRows_27 := sd_vret X (by decide +kernel : decode cX12_copyRows 27 = .ok (.return_, 1))
  have h24 : Sd E K 24 (xs 2) := sd_goto X (by decide +kernel : decode cX12_copyRows 24 = .ok (.goto (-22), 3)) (by decide) (sd_s 2)
  have h21 : Sd E K 21 q_X12_copyRows_21 := sd_iinc X (by decide +kernel : decode cX12_copyRows 21 = .ok (.iinc 2 1, 3)) (by decide +kernel) h24
  have h18 : Sd E K 18 q_X12_copyRows_18 := sd_copyF X (Nat.le_of_ble_eq_true rfl) rfl (by decide +kernel : decode cX12_copyRows 18 = .ok (.invokestatic 338, 3)) wd_427 wd_429 wd_428 wd_41 (Nat.le_of_ble_eq_true rfl) (Nat.le_of_ble_eq_true rfl) h21
  have h16 : Sd E K 16 q_X12_copyRows_16 := sd_bipush X (by decide +kernel : decode cX12_copyRows 16 = .ok (.bipush 8, 2)) (by decide +kernel) h18
  have h15 : Sd E K 15 q_X12_copyRows_15 := sd_iconst X (by decide +kernel : decode cX12_copyRows 15 = .ok (.iconst 0, 1)) (by decide +kernel) h16
  have h14 : Sd E K 14 q_X12_copyRows_14 := sd_aald X rfl (by decide +kernel : decode cX12_copyRows 14 = .ok (.aaload, 1)) h15
  have h13 : Sd E K 13 q_X12_copyRows_13 := sd_iload_n X (by decide +kernel : decode cX12_copyRows 13 = .ok (.iload_n 2, 1)) rfl h14
  have h12 : Sd E K 12 q_X12_copyRows_12 := sd_aload_n X (by decide +kernel : decode cX12_copyRows 12 = .ok (.aload_n 1, 1)) rfl h13
  have h11 : Sd E K 11 q_X12_copyRows_11 := sd_iconst X (by decide +kernel : decode cX12_copyRows 11 = .ok (.iconst 0, 1)) (by decide +kernel) h12
  have h10 : Sd E K 10 q_X12_copyRows_10 := sd_aald X rfl (by decide +kernel : decode cX12_copyRows 10 = .ok (.aaload, 1)) h11
  have h9 : Sd E K 9 q_X12_copyRows_9 := sd_iload_n X (by decide +kernel : decode cX12_copyRows 9 = .ok (.iload_n 2, 1)) rfl h10
  have h8 : Sd E K 8 q_X12_copyRows_8 := sd_aload_n X (by decide +kernel : decode cX12_copyRows 8 = .ok (.aload_n 0, 1)) rfl h9
  have h5 : Sd E K 5 q_X12_copyRows_5 := sd_icmp_ge X (by decide +kernel : decode cX12_copyRows 5 = .ok (.if_icmp .ge 22, 3)) (by decide) h27 h8
  have h3 : Sd E K 3 q_X12_copyRows_3 := sd_bipush X (by decide +kernel : decode cX12_copyRows 3 = .ok (.bipush 8, 2)) (by decide +kernel) h5
  have h2 : Sd E K 2 q_X12_copyRows_2 := sd_iload_n X (by decide +kernel : decode cX12_copyRows 2 = .ok (.iload_n 2, 1)) rfl h3
  have h1 : Sd E K 1 q_X12_copyRows_1 := sd_istore_n X (by decide +kernel : decode cX12_copyRows 1 = .ok (.istore_n 2, 1)) rfl (sd_s 2)
  have h0 : Sd E K 0 q_X12_copyRows_0 := sd_iconst X (by decide +kernel : decode cX12_copyRows 0 = .ok (.iconst 0, 1)) (by decide +kernel) h1
  exact ⟨h0, h2⟩
set_option maxHeartbeats 4000000 in
set_option maxRecDepth 100000 in
theorem ct_X12_copyRows {s0 : State} {D : va_G} {ids : Nat → ClassId} {V : Nat → Nat} {l : Launch} (G : GG s0 D ids V) : CT s0 D ids l yX12_copyRows cX12_copyRows 3 none rm_X12_copyRows Sp_X12_copyRows := CT.of (by decide +kernel) G.k (by
  rintro as z f K E ⟨a, b, g, h, rfl, hg, hh, hab, hK⟩ X
  obtain ⟨t0, t1⟩ := t_X12_copyRows G X
  refine ⟨Nat.le_of_ble_eq_true rfl, by simp [Value.category], t0 _ _ _ _ ?_⟩
  simp (disch := omega) only [q_X12_copyRows_0, q_X12_copyRows_1, q_X12_copyRows_2, q_X12_copyRows_3, q_X12_copyRows_5, q_X12_copyRows_8, q_X12_copyRows_9, q_X12_copyRows_10, q_X12_copyRows_11, q_X12_copyRows_12, q_X12_copyRows_13, q_X12_copyRows_14, q_X12_copyRows_15, q_X12_copyRows_16, q_X12_copyRows_18, q_X12_copyRows_21, q_X12_copyRows_27, xpush, xiload, xaload, xlload, xfload, xdload, lkill, xistore, xastore, xfstore, xlstore, xdstore, xiinc, xbin, xdiv, xun, xlbin, xi2l, xi2f, xi2d, xlcmp, xfcmp, xdcmp, xfdiv, xddiv, c1, xdup, xpop, xdup_x1, xdup2, xif, xicmp, xtab, xtabL, xget, xput, xald, xast, xalen, xnew, xnewa, c1s, recvOk, xcall, kont, xret, xlret, xfret, xdret, xaret, xvret, xs, xnewq, xastq, xcopy, xcopyF, xobj, xmax, xmin, xdead, xpushq, xmna, ls0, List.map_cons, List.map_nil, List.length_cons, List.length_nil, List.replicate, List.append_nil, List.cons_append, List.nil_append, List.getElem?_cons_zero, List.getElem?_cons_succ, List.getElem?_nil, List.set_cons_zero, List.set_cons_succ, List.take_succ_cons, List.take_zero, List.drop_succ_cons, List.drop_zero, List.reverse_cons, List.reverse_nil, List.sum_cons, List.sum_nil, Value.category, Option.toList_some, Option.toList_none, Nat.reduceAdd, Nat.reduceSub, Nat.reduceLT, Nat.reduceLeDiff, Nat.zero_add, Nat.le_refl, true_and, and_true, Nat.sub_zero, Nat.zero_lt_succ, Nat.zero_le, Nat.not_lt_zero, Nat.reduceEqDiff, Nat.one_ne_zero, nI_toInt, Int.reduceEq, Int.reduceAdd, Int.reduceLT, Int.reduceLE, Int.cast_ofNat_Int, reduceIte, or_false, false_or, eq_self, or_true, true_or, or_self, nI_clamp, vp_in_nI, nI_ltI, nI_leI, nI_eq, nI_add, nI_zero9, nI_nlt0, nI_le0, nI_lt0, arG, va_rf, not_false_eq_true, not_true_eq_false, false_implies, true_implies, implies_true, ne_eq, okv_int, okv_z0, okv_z1, okv_zN, okv_ref, okv_arr, okv_null, vn_z0, vn_z1, vn_zN, nr_int, nr_z, va_up_self, up_fr, rw1_j, rw1_up]
  refine dnR (N := 8) (R := fun i f' => isGr f' b (mixG g h i) ∧ ∀ q, q < b ∨ b + 9 ≤ q → f' q = f q) (P := fun i f' => E 2 [some (.ref a), some (.ref b), some (.int (nI i))] [] (z, 0, 0) f') ?_ ?_ 0 (by omega) f ⟨hh.cong (fun r hr => by unfold mixG; rw [if_neg (by omega)]), fun q hq => rfl⟩
  · rintro f' ⟨h1, h2⟩
    refine t1 _ _ _ _ ?_
    simp (disch := omega) only [q_X12_copyRows_0, q_X12_copyRows_1, q_X12_copyRows_2, q_X12_copyRows_3, q_X12_copyRows_5, q_X12_copyRows_8, q_X12_copyRows_9, q_X12_copyRows_10, q_X12_copyRows_11, q_X12_copyRows_12, q_X12_copyRows_13, q_X12_copyRows_14, q_X12_copyRows_15, q_X12_copyRows_16, q_X12_copyRows_18, q_X12_copyRows_21, q_X12_copyRows_27, xpush, xiload, xaload, xlload, xfload, xdload, lkill, xistore, xastore, xfstore, xlstore, xdstore, xiinc, xbin, xdiv, xun, xlbin, xi2l, xi2f, xi2d, xlcmp, xfcmp, xdcmp, xfdiv, xddiv, c1, xdup, xpop, xdup_x1, xdup2, xif, xicmp, xtab, xtabL, xget, xput, xald, xast, xalen, xnew, xnewa, c1s, recvOk, xcall, kont, xret, xlret, xfret, xdret, xaret, xvret, xs, xnewq, xastq, xcopy, xcopyF, xobj, xmax, xmin, xdead, xpushq, xmna, ls0, List.map_cons, List.map_nil, List.length_cons, List.length_nil, List.replicate, List.append_nil, List.cons_append, List.nil_append, List.getElem?_cons_zero, List.getElem?_cons_succ, List.getElem?_nil, List.set_cons_zero, List.set_cons_succ, List.take_succ_cons, List.take_zero, List.drop_succ_cons, List.drop_zero, List.reverse_cons, List.reverse_nil, List.sum_cons, List.sum_nil, Value.category, Option.toList_some, Option.toList_none, Nat.reduceAdd, Nat.reduceSub, Nat.reduceLT, Nat.reduceLeDiff, Nat.zero_add, Nat.le_refl, true_and, and_true, Nat.sub_zero, Nat.zero_lt_succ, Nat.zero_le, Nat.not_lt_zero, Nat.reduceEqDiff, Nat.one_ne_zero, nI_toInt, Int.reduceEq, Int.reduceAdd, Int.reduceLT, Int.reduceLE, Int.cast_ofNat_Int, reduceIte, or_false, false_or, eq_self, or_true, true_or, or_self, nI_clamp, vp_in_nI, nI_ltI, nI_leI, nI_eq, nI_add, nI_zero9, nI_nlt0, nI_le0, nI_lt0, arG, va_rf, not_false_eq_true, not_true_eq_false, false_implies, true_implies, implies_true, ne_eq, okv_int, okv_z0, okv_z1, okv_zN, okv_ref, okv_arr, okv_null, vn_z0, vn_z1, vn_zN, nr_int, nr_z, va_up_self, up_fr, rw1_j, rw1_up]
    exact hK f' (h1.cong (fun r hr => by unfold mixG; rw [if_pos hr])) h2
  · rintro i hi ih f' ⟨h1, h2⟩
    have hg' : isGr f' a g := hg.fr (fun q q1 q2 => h2 q (by omega))
    have e1 := hg'.2 i hi
    have e2 := h1.2 i hi
    refine t1 _ _ _ _ ?_
    simp (disch := omega) only [q_X12_copyRows_0, q_X12_copyRows_1, q_X12_copyRows_2, q_X12_copyRows_3, q_X12_copyRows_5, q_X12_copyRows_8, q_X12_copyRows_9, q_X12_copyRows_10, q_X12_copyRows_11, q_X12_copyRows_12, q_X12_copyRows_13, q_X12_copyRows_14, q_X12_copyRows_15, q_X12_copyRows_16, q_X12_copyRows_18, q_X12_copyRows_21, q_X12_copyRows_27, xpush, xiload, xaload, xlload, xfload, xdload, lkill, xistore, xastore, xfstore, xlstore, xdstore, xiinc, xbin, xdiv, xun, xlbin, xi2l, xi2f, xi2d, xlcmp, xfcmp, xdcmp, xfdiv, xddiv, c1, xdup, xpop, xdup_x1, xdup2, xif, xicmp, xtab, xtabL, xget, xput, xald, xast, xalen, xnew, xnewa, c1s, recvOk, xcall, kont, xret, xlret, xfret, xdret, xaret, xvret, xs, xnewq, xastq, xcopy, xcopyF, xobj, xmax, xmin, xdead, xpushq, xmna, ls0, List.map_cons, List.map_nil, List.length_cons, List.length_nil, List.replicate, List.append_nil, List.cons_append, List.nil_append, List.getElem?_cons_zero, List.getElem?_cons_succ, List.getElem?_nil, List.set_cons_zero, List.set_cons_succ, List.take_succ_cons, List.take_zero, List.drop_succ_cons, List.drop_zero, List.reverse_cons, List.reverse_nil, List.sum_cons, List.sum_nil, Value.category, Option.toList_some, Option.toList_none, Nat.reduceAdd, Nat.reduceSub, Nat.reduceLT, Nat.reduceLeDiff, Nat.zero_add, Nat.le_refl, true_and, and_true, Nat.sub_zero, Nat.zero_lt_succ, Nat.zero_le, Nat.not_lt_zero, Nat.reduceEqDiff, Nat.one_ne_zero, nI_toInt, Int.reduceEq, Int.reduceAdd, Int.reduceLT, Int.reduceLE, Int.cast_ofNat_Int, reduceIte, or_false, false_or, eq_self, or_true, true_or, or_self, nI_clamp, vp_in_nI, nI_ltI, nI_leI, nI_eq, nI_add, nI_zero9, nI_nlt0, nI_le0, nI_lt0, arG, va_rf, not_false_eq_true, not_true_eq_false, false_implies, true_implies, implies_true, ne_eq, okv_int, okv_z0, okv_z1, okv_zN, okv_ref, okv_arr, okv_null, vn_z0, vn_z1, vn_zN, nr_int, nr_z, va_up_self, up_fr, rw1_j, rw1_up, hg'.1, h1.1, e1, e2, hi, Nat.not_le.mpr hi]
    refine ⟨fun j _ => rfl, ih _ ⟨?_, fun q hq => by rw [up_fr (by omega)]; exact h2 q hq⟩⟩
    refine ⟨by rw [up_fr (by omega)]; exact h1.1, fun r hr => ?_⟩
    by_cases q : r = i
    · subst q
      rw [va_up_self]
      unfold mixG
      rw [if_pos (by omega)]
    · rw [up_fr (by omega), h1.2 r hr]
      unfold mixG
      by_cases q2 : r < i
      · rw [if_pos q2, if_pos (by omega)]
      · rw [if_neg q2, if_neg (by omega)])
abbrev Sp_X8_copyFrom : Spt := fun as z f K => ∃ (a b : Nat) (M N : Cm), as = [.ref a, .ref b] ∧ isRd f a M ∧ isRd f b N ∧ (a + 10 ≤ b ∨ b + 10 ≤ a) ∧ ∀ f', isRd f' a N → (∀ q, q < a ∨ a + 10 ≤ q → f' q = f q) → K none z f'
def rm_X8_copyFrom : Room := { frames := 2, cells := 0, slots := 0, locals := 48 }
def q_X8_copyFrom_19 (ls : Ls) (st : List Value) (z : Zz) (f : Fm) (E : Ej) (R : Kr) : Prop := xvret ls st z f E R
def q_X8_copyFrom_16 (ls : Ls) (st : List Value) (z : Zz) (f : Fm) (E : Ej) (R : Kr) : Prop := xput 7 1 .int q_X8_copyFrom_19 ls st z f E R
def q_X8_copyFrom_13 (ls : Ls) (st : List Value) (z : Zz) (f : Fm) (E : Ej) (R : Kr) : Prop := xget 7 1 q_X8_copyFrom_16 ls st z f E R
def q_X8_copyFrom_12 (ls : Ls) (st : List Value) (z : Zz) (f : Fm) (E : Ej) (R : Kr) : Prop := xaload 1 q_X8_copyFrom_13 ls st z f E R
def q_X8_copyFrom_11 (ls : Ls) (st : List Value) (z : Zz) (f : Fm) (E : Ej) (R : Kr) : Prop := xaload 0 q_X8_copyFrom_12 ls st z f E R
def q_X8_copyFrom_8 (ls : Ls) (st : List Value) (z : Zz) (f : Fm) (E : Ej) (R : Kr) : Prop := xcall 2 0 Sp_X12_copyRows 0 0 q_X8_copyFrom_11 ls st z f E R
def q_X8_copyFrom_5 (ls : Ls) (st : List Value) (z : Zz) (f : Fm) (E : Ej) (R : Kr) : Prop := xget 7 0 q_X8_copyFrom_8 ls st z f E R
def q_X8_copyFrom_4 (ls : Ls) (st : List Value) (z : Zz) (f : Fm) (E : Ej) (R : Kr) : Prop := xaload 0 q_X8_copyFrom_5 ls st z f E R
def q_X8_copyFrom_1 (ls : Ls) (st : List Value) (z : Zz) (f : Fm) (E : Ej) (R : Kr) : Prop := xget 7 0 q_X8_copyFrom_4 ls st z f E R
def q_X8_copyFrom_0 (ls : Ls) (st : List Value) (z : Zz) (f : Fm) (E : Ej) (R : Kr) : Prop := xaload 1 q_X8_copyFrom_1 ls st z f E R
set_option maxRecDepth 100000 in
theorem t_X8_copyFrom {s0 : State} {D : va_G} {ids : Nat → ClassId} {V : Nat → Nat} {l : Launch} {K : Kr} {E : Ej} (G : GG s0 D ids V) (X : EnX s0 D ids l RX8 cX8_copyFrom 2 none "copyFrom" rm_X8_copyFrom K E) : Sd E K 0 q_X8_copyFrom_0 := by
  have h19 : Sd E K 19 q_X8_copyFrom_19 := sd_vret X (by decide +kernel : decode cX8_copyFrom 19 = .ok (.return_, 1))
  have h16 : Sd E K 16 q_X8_copyFrom_16 := sd_put X (by decide +kernel : decode cX8_copyFrom 16 = .ok (.putfield 16, 3)) ok_X8 (Nat.le_of_ble_eq_true rfl) rfl rfl wd_78 h19
  have h13 : Sd E K 13 q_X8_copyFrom_13 := sd_get X (by decide +kernel : decode cX8_copyFrom 13 = .ok (.getfield 16, 3)) ok_X8 (Nat.le_of_ble_eq_true rfl) wd_78 h16
  have h12 : Sd E K 12 q_X8_copyFrom_12 := sd_aload_n X (by decide +kernel : decode cX8_copyFrom 12 = .ok (.aload_n 1, 1)) rfl h13
  have h11 : Sd E K 11 q_X8_copyFrom_11 := sd_aload_n X (by decide +kernel : decode cX8_copyFrom 11 = .ok (.aload_n 0, 1)) rfl h12
  have h8 : Sd E K 8 q_X8_copyFrom_8 := sd_callSN (n := 2) X (ct_X12_copyRows G) (by decide +kernel : decode cX8_copyFrom 8 = .ok (.invokestatic 20, 3)) wd_426 (G.nest_424) wd_425 wd_24 (by decide +kernel) ⟨Nat.le_of_ble_eq_true rfl, Nat.le_of_ble_eq_true rfl⟩ h11
  have h5 : Sd E K 5 q_X8_copyFrom_5 := sd_get X (by decide +kernel : decode cX8_copyFrom 5 = .ok (.getfield 11, 3)) ok_X8 (Nat.le_of_ble_eq_true rfl) wd_77 h8
  have h4 : Sd E K 4 q_X8_copyFrom_4 := sd_aload_n X (by decide +kernel : decode cX8_copyFrom 4 = .ok (.aload_n 0, 1)) rfl h5
  have h1 : Sd E K 1 q_X8_copyFrom_1 := sd_get X (by decide +kernel : decode cX8_copyFrom 1 = .ok (.getfield 11, 3)) ok_X8 (Nat.le_of_ble_eq_true rfl) wd_77 h4
  have h0 : Sd E K 0 q_X8_copyFrom_0 := sd_aload_n X (by decide +kernel : decode cX8_copyFrom 0 = .ok (.aload_n 1, 1)) rfl h1
  exact h0
set_option maxHeartbeats 4000000 in
set_option maxRecDepth 100000 in
theorem ct_X8_copyFrom {s0 : State} {D : va_G} {ids : Nat → ClassId} {V : Nat → Nat} {l : Launch} (G : GG s0 D ids V) : CT s0 D ids l yX8_copyFrom cX8_copyFrom 2 none rm_X8_copyFrom Sp_X8_copyFrom := CT.of (by decide +kernel) G.k (by
  rintro as z f K E ⟨a, b, M, N, rfl, hM, hN, hab, hK⟩ X
  refine ⟨Nat.le_of_ble_eq_true rfl, by simp [Value.category], t_X8_copyFrom G X _ _ _ _ ?_⟩
  simp (disch := omega) only [q_X8_copyFrom_0, q_X8_copyFrom_1, q_X8_copyFrom_4, q_X8_copyFrom_5, q_X8_copyFrom_8, q_X8_copyFrom_11, q_X8_copyFrom_12, q_X8_copyFrom_13, q_X8_copyFrom_16, q_X8_copyFrom_19, xpush, xiload, xaload, xlload, xfload, xdload, lkill, xistore, xastore, xfstore, xlstore, xdstore, xiinc, xbin, xdiv, xun, xlbin, xi2l, xi2f, xi2d, xlcmp, xfcmp, xdcmp, xfdiv, xddiv, c1, xdup, xpop, xdup_x1, xdup2, xif, xicmp, xtab, xtabL, xget, xput, xald, xast, xalen, xnew, xnewa, c1s, recvOk, xcall, kont, xret, xlret, xfret, xdret, xaret, xvret, xs, xnewq, xastq, xcopy, xcopyF, xobj, xmax, xmin, xdead, xpushq, xmna, ls0, List.map_cons, List.map_nil, List.length_cons, List.length_nil, List.replicate, List.append_nil, List.cons_append, List.nil_append, List.getElem?_cons_zero, List.getElem?_cons_succ, List.getElem?_nil, List.set_cons_zero, List.set_cons_succ, List.take_succ_cons, List.take_zero, List.drop_succ_cons, List.drop_zero, List.reverse_cons, List.reverse_nil, List.sum_cons, List.sum_nil, Value.category, Option.toList_some, Option.toList_none, Nat.reduceAdd, Nat.reduceSub, Nat.reduceLT, Nat.reduceLeDiff, Nat.zero_add, Nat.le_refl, true_and, and_true, Nat.sub_zero, Nat.zero_lt_succ, Nat.zero_le, Nat.not_lt_zero, Nat.reduceEqDiff, Nat.one_ne_zero, nI_toInt, Int.reduceEq, Int.reduceAdd, Int.reduceLT, Int.reduceLE, Int.cast_ofNat_Int, reduceIte, or_false, false_or, eq_self, or_true, true_or, or_self, nI_clamp, vp_in_nI, nI_ltI, nI_leI, nI_eq, nI_add, nI_zero9, nI_nlt0, nI_le0, nI_lt0, arG, va_rf, not_false_eq_true, not_true_eq_false, false_implies, true_implies, implies_true, ne_eq, okv_int, okv_z0, okv_z1, okv_zN, okv_ref, okv_arr, okv_null, vn_z0, vn_z1, vn_zN, nr_int, nr_z, va_up_self, up_fr, rw1_j, rw1_up, hM.1, hN.1]
  refine ⟨b + 1, a + 1, N 1, M 1, rfl, hN.2, hM.2, by omega, fun f1 g1 fr1 => ?_⟩
  have e1 : f1 a = _ := (fr1 a (by omega)).trans hM.1
  have e2 : f1 b = _ := (fr1 b (by omega)).trans hN.1
  simp (disch := omega) only [q_X8_copyFrom_0, q_X8_copyFrom_1, q_X8_copyFrom_4, q_X8_copyFrom_5, q_X8_copyFrom_8, q_X8_copyFrom_11, q_X8_copyFrom_12, q_X8_copyFrom_13, q_X8_copyFrom_16, q_X8_copyFrom_19, xpush, xiload, xaload, xlload, xfload, xdload, lkill, xistore, xastore, xfstore, xlstore, xdstore, xiinc, xbin, xdiv, xun, xlbin, xi2l, xi2f, xi2d, xlcmp, xfcmp, xdcmp, xfdiv, xddiv, c1, xdup, xpop, xdup_x1, xdup2, xif, xicmp, xtab, xtabL, xget, xput, xald, xast, xalen, xnew, xnewa, c1s, recvOk, xcall, kont, xret, xlret, xfret, xdret, xaret, xvret, xs, xnewq, xastq, xcopy, xcopyF, xobj, xmax, xmin, xdead, xpushq, xmna, ls0, List.map_cons, List.map_nil, List.length_cons, List.length_nil, List.replicate, List.append_nil, List.cons_append, List.nil_append, List.getElem?_cons_zero, List.getElem?_cons_succ, List.getElem?_nil, List.set_cons_zero, List.set_cons_succ, List.take_succ_cons, List.take_zero, List.drop_succ_cons, List.drop_zero, List.reverse_cons, List.reverse_nil, List.sum_cons, List.sum_nil, Value.category, Option.toList_some, Option.toList_none, Nat.reduceAdd, Nat.reduceSub, Nat.reduceLT, Nat.reduceLeDiff, Nat.zero_add, Nat.le_refl, true_and, and_true, Nat.sub_zero, Nat.zero_lt_succ, Nat.zero_le, Nat.not_lt_zero, Nat.reduceEqDiff, Nat.one_ne_zero, nI_toInt, Int.reduceEq, Int.reduceAdd, Int.reduceLT, Int.reduceLE, Int.cast_ofNat_Int, reduceIte, or_false, false_or, eq_self, or_true, true_or, or_self, nI_clamp, vp_in_nI, nI_ltI, nI_leI, nI_eq, nI_add, nI_zero9, nI_nlt0, nI_le0, nI_lt0, arG, va_rf, not_false_eq_true, not_true_eq_false, false_implies, true_implies, implies_true, ne_eq, okv_int, okv_z0, okv_z1, okv_zN, okv_ref, okv_arr, okv_null, vn_z0, vn_z1, vn_zN, nr_int, nr_z, va_up_self, up_fr, rw1_j, rw1_up, e1, e2]
  exact hK _ ⟨va_up_self _ _ _, g1.up (by omega)⟩ (fun q hq => by rw [up_fr (by omega)]; exact fr1 q (by omega)))
abbrev Sp_X9_copyFrom : Spt := fun as z f K => ∃ (a b : Nat) (M N : Cm), as = [.ref a, .ref b] ∧ isRt f a M ∧ isRt f b N ∧ (a + 37 ≤ b ∨ b + 37 ≤ a) ∧ ∀ f', isRt f' a N → (∀ q, q < a ∨ a + 37 ≤ q → f' q = f q) → K none z f'
def rm_X9_copyFrom : Room := { frames := 2, cells := 0, slots := 0, locals := 48 }
def q_X9_copyFrom_44 (ls : Ls) (st : List Value) (z : Zz) (f : Fm) (E : Ej) (R : Kr) : Prop := xvret ls st z f E R
def q_X9_copyFrom_41 (ls : Ls) (st : List Value) (z : Zz) (f : Fm) (E : Ej) (R : Kr) : Prop := xcall 2 0 Sp_X12_copyRows 0 0 q_X9_copyFrom_44 ls st z f E R
def q_X9_copyFrom_38 (ls : Ls) (st : List Value) (z : Zz) (f : Fm) (E : Ej) (R : Kr) : Prop := xget 8 3 q_X9_copyFrom_41 ls st z f E R
def q_X9_copyFrom_37 (ls : Ls) (st : List Value) (z : Zz) (f : Fm) (E : Ej) (R : Kr) : Prop := xaload 0 q_X9_copyFrom_38 ls st z f E R
def q_X9_copyFrom_34 (ls : Ls) (st : List Value) (z : Zz) (f : Fm) (E : Ej) (R : Kr) : Prop := xget 8 3 q_X9_copyFrom_37 ls st z f E R
def q_X9_copyFrom_33 (ls : Ls) (st : List Value) (z : Zz) (f : Fm) (E : Ej) (R : Kr) : Prop := xaload 1 q_X9_copyFrom_34 ls st z f E R
def q_X9_copyFrom_30 (ls : Ls) (st : List Value) (z : Zz) (f : Fm) (E : Ej) (R : Kr) : Prop := xcall 2 0 Sp_X12_copyRows 0 0 q_X9_copyFrom_33 ls st z f E R
def q_X9_copyFrom_27 (ls : Ls) (st : List Value) (z : Zz) (f : Fm) (E : Ej) (R : Kr) : Prop := xget 8 2 q_X9_copyFrom_30 ls st z f E R
def q_X9_copyFrom_26 (ls : Ls) (st : List Value) (z : Zz) (f : Fm) (E : Ej) (R : Kr) : Prop := xaload 0 q_X9_copyFrom_27 ls st z f E R
def q_X9_copyFrom_23 (ls : Ls) (st : List Value) (z : Zz) (f : Fm) (E : Ej) (R : Kr) : Prop := xget 8 2 q_X9_copyFrom_26 ls st z f E R
def q_X9_copyFrom_22 (ls : Ls) (st : List Value) (z : Zz) (f : Fm) (E : Ej) (R : Kr) : Prop := xaload 1 q_X9_copyFrom_23 ls st z f E R
def q_X9_copyFrom_19 (ls : Ls) (st : List Value) (z : Zz) (f : Fm) (E : Ej) (R : Kr) : Prop := xcall 2 0 Sp_X12_copyRows 0 0 q_X9_copyFrom_22 ls st z f E R
def q_X9_copyFrom_16 (ls : Ls) (st : List Value) (z : Zz) (f : Fm) (E : Ej) (R : Kr) : Prop := xget 8 1 q_X9_copyFrom_19 ls st z f E R
def q_X9_copyFrom_15 (ls : Ls) (st : List Value) (z : Zz) (f : Fm) (E : Ej) (R : Kr) : Prop := xaload 0 q_X9_copyFrom_16 ls st z f E R
def q_X9_copyFrom_12 (ls : Ls) (st : List Value) (z : Zz) (f : Fm) (E : Ej) (R : Kr) : Prop := xget 8 1 q_X9_copyFrom_15 ls st z f E R
def q_X9_copyFrom_11 (ls : Ls) (st : List Value) (z : Zz) (f : Fm) (E : Ej) (R : Kr) : Prop := xaload 1 q_X9_copyFrom_12 ls st z f E R
def q_X9_copyFrom_8 (ls : Ls) (st : List Value) (z : Zz) (f : Fm) (E : Ej) (R : Kr) : Prop := xcall 2 0 Sp_X12_copyRows 0 0 q_X9_copyFrom_11 ls st z f E R
def q_X9_copyFrom_5 (ls : Ls) (st : List Value) (z : Zz) (f : Fm) (E : Ej) (R : Kr) : Prop := xget 8 0 q_X9_copyFrom_8 ls st z f E R
def q_X9_copyFrom_4 (ls : Ls) (st : List Value) (z : Zz) (f : Fm) (E : Ej) (R : Kr) : Prop := xaload 0 q_X9_copyFrom_5 ls st z f E R
def q_X9_copyFrom_1 (ls : Ls) (st : List Value) (z : Zz) (f : Fm) (E : Ej) (R : Kr) : Prop := xget 8 0 q_X9_copyFrom_4 ls st z f E R
def q_X9_copyFrom_0 (ls : Ls) (st : List Value) (z : Zz) (f : Fm) (E : Ej) (R : Kr) : Prop := xaload 1 q_X9_copyFrom_1 ls st z f E R
set_option maxRecDepth 100000 in
theorem t_X9_copyFrom {s0 : State} {D : va_G} {ids : Nat → ClassId} {V : Nat → Nat} {l : Launch} {K : Kr} {E : Ej} (G : GG s0 D ids V) (X : EnX s0 D ids l RX9 cX9_copyFrom 2 none "copyFrom" rm_X9_copyFrom K E) : Sd E K 0 q_X9_copyFrom_0 := by
  have h44 : Sd E K 44 q_X9_copyFrom_44 := sd_vret X (by decide +kernel : decode cX9_copyFrom 44 = .ok (.return_, 1))
  have h41 : Sd E K 41 q_X9_copyFrom_41 := sd_callSN (n := 2) X (ct_X12_copyRows G) (by decide +kernel : decode cX9_copyFrom 41 = .ok (.invokestatic 25, 3)) wd_426 (G.nest_434) wd_425 wd_24 (by decide +kernel) ⟨Nat.le_of_ble_eq_true rfl, Nat.le_of_ble_eq_true rfl⟩ h44
  have h38 : Sd E K 38 q_X9_copyFrom_38 := sd_get X (by decide +kernel : decode cX9_copyFrom 38 = .ok (.getfield 22, 3)) ok_X9 (Nat.le_of_ble_eq_true rfl) wd_105 h41
  have h37 : Sd E K 37 q_X9_copyFrom_37 := sd_aload_n X (by decide +kernel : decode cX9_copyFrom 37 = .ok (.aload_n 0, 1)) rfl h38
  have h34 : Sd E K 34 q_X9_copyFrom_34 := sd_get X (by decide +kernel : decode cX9_copyFrom 34 = .ok (.getfield 22, 3)) ok_X9 (Nat.le_of_ble_eq_true rfl) wd_105 h37
  have h33 : Sd E K 33 q_X9_copyFrom_33 := sd_aload_n X (by decide +kernel : decode cX9_copyFrom 33 = .ok (.aload_n 1, 1)) rfl h34
  have h30 : Sd E K 30 q_X9_copyFrom_30 := sd_callSN (n := 2) X (ct_X12_copyRows G) (by decide +kernel : decode cX9_copyFrom 30 = .ok (.invokestatic 25, 3)) wd_426 (G.nest_434) wd_425 wd_24 (by decide +kernel) ⟨Nat.le_of_ble_eq_true rfl, Nat.le_of_ble_eq_true rfl⟩ h33
  have h27 : Sd E K 27 q_X9_copyFrom_27 := sd_get X (by decide +kernel : decode cX9_copyFrom 27 = .ok (.getfield 19, 3)) ok_X9 (Nat.le_of_ble_eq_true rfl) wd_103 h30
  have h26 : Sd E K 26 q_X9_copyFrom_26 := sd_aload_n X (by decide +kernel : decode cX9_copyFrom 26 = .ok (.aload_n 0, 1)) rfl h27
  have h23 : Sd E K 23 q_X9_copyFrom_23 := sd_get X (by decide +kernel : decode cX9_copyFrom 23 = .ok (.getfield 19, 3)) ok_X9 (Nat.le_of_ble_eq_true rfl) wd_103 h26
  have h22 : Sd E K 22 q_X9_copyFrom_22 := sd_aload_n X (by decide +kernel : decode cX9_copyFrom 22 = .ok (.aload_n 1, 1)) rfl h23
  have h19 : Sd E K 19 q_X9_copyFrom_19 := sd_callSN (n := 2) X (ct_X12_copyRows G) (by decide +kernel : decode cX9_copyFrom 19 = .ok (.invokestatic 25, 3)) wd_426 (G.nest_434) wd_425 wd_24 (by decide +kernel) ⟨Nat.le_of_ble_eq_true rfl, Nat.le_of_ble_eq_true rfl⟩ h22
  have h16 : Sd E K 16 q_X9_copyFrom_16 := sd_get X (by decide +kernel : decode cX9_copyFrom 16 = .ok (.getfield 16, 3)) ok_X9 (Nat.le_of_ble_eq_true rfl) wd_98 h19
  have h15 : Sd E K 15 q_X9_copyFrom_15 := sd_aload_n X (by decide +kernel : decode cX9_copyFrom 15 = .ok (.aload_n 0, 1)) rfl h16
  have h12 : Sd E K 12 q_X9_copyFrom_12 := sd_get X (by decide +kernel : decode cX9_copyFrom 12 = .ok (.getfield 16, 3)) ok_X9 (Nat.le_of_ble_eq_true rfl) wd_98 h15
  have h11 : Sd E K 11 q_X9_copyFrom_11 := sd_aload_n X (by decide +kernel : decode cX9_copyFrom 11 = .ok (.aload_n 1, 1)) rfl h12
  have h8 : Sd E K 8 q_X9_copyFrom_8 := sd_callSN (n := 2) X (ct_X12_copyRows G) (by decide +kernel : decode cX9_copyFrom 8 = .ok (.invokestatic 25, 3)) wd_426 (G.nest_434) wd_425 wd_24 (by decide +kernel) ⟨Nat.le_of_ble_eq_true rfl, Nat.le_of_ble_eq_true rfl⟩ h11
  have h5 : Sd E K 5 q_X9_copyFrom_5 := sd_get X (by decide +kernel : decode cX9_copyFrom 5 = .ok (.getfield 11, 3)) ok_X9 (Nat.le_of_ble_eq_true rfl) wd_95 h8
  have h4 : Sd E K 4 q_X9_copyFrom_4 := sd_aload_n X (by decide +kernel : decode cX9_copyFrom 4 = .ok (.aload_n 0, 1)) rfl h5
  have h1 : Sd E K 1 q_X9_copyFrom_1 := sd_get X (by decide +kernel : decode cX9_copyFrom 1 = .ok (.getfield 11, 3)) ok_X9 (Nat.le_of_ble_eq_true rfl) wd_95 h4
  have h0 : Sd E K 0 q_X9_copyFrom_0 := sd_aload_n X (by decide +kernel : decode cX9_copyFrom 0 = .ok (.aload_n 1, 1)) rfl h1
  exact h0
set_option maxHeartbeats 4000000 in
set_option maxRecDepth 100000 in
theorem ct_X9_copyFrom {s0 : State} {D : va_G} {ids : Nat → ClassId} {V : Nat → Nat} {l : Launch} (G : GG s0 D ids V) : CT s0 D ids l yX9_copyFrom cX9_copyFrom 2 none rm_X9_copyFrom Sp_X9_copyFrom := CT.of (by decide +kernel) G.k (by
  rintro as z f K E ⟨a, b, M, N, rfl, hM, hN, hab, hK⟩ X
  refine ⟨Nat.le_of_ble_eq_true rfl, by simp [Value.category], t_X9_copyFrom G X _ _ _ _ ?_⟩
  simp (disch := omega) only [q_X9_copyFrom_0, q_X9_copyFrom_1, q_X9_copyFrom_4, q_X9_copyFrom_5, q_X9_copyFrom_8, q_X9_copyFrom_11, q_X9_copyFrom_12, q_X9_copyFrom_15, q_X9_copyFrom_16, q_X9_copyFrom_19, q_X9_copyFrom_22, q_X9_copyFrom_23, q_X9_copyFrom_26, q_X9_copyFrom_27, q_X9_copyFrom_30, q_X9_copyFrom_33, q_X9_copyFrom_34, q_X9_copyFrom_37, q_X9_copyFrom_38, q_X9_copyFrom_41, q_X9_copyFrom_44, xpush, xiload, xaload, xlload, xfload, xdload, lkill, xistore, xastore, xfstore, xlstore, xdstore, xiinc, xbin, xdiv, xun, xlbin, xi2l, xi2f, xi2d, xlcmp, xfcmp, xdcmp, xfdiv, xddiv, c1, xdup, xpop, xdup_x1, xdup2, xif, xicmp, xtab, xtabL, xget, xput, xald, xast, xalen, xnew, xnewa, c1s, recvOk, xcall, kont, xret, xlret, xfret, xdret, xaret, xvret, xs, xnewq, xastq, xcopy, xcopyF, xobj, xmax, xmin, xdead, xpushq, xmna, ls0, List.map_cons, List.map_nil, List.length_cons, List.length_nil, List.replicate, List.append_nil, List.cons_append, List.nil_append, List.getElem?_cons_zero, List.getElem?_cons_succ, List.getElem?_nil, List.set_cons_zero, List.set_cons_succ, List.take_succ_cons, List.take_zero, List.drop_succ_cons, List.drop_zero, List.reverse_cons, List.reverse_nil, List.sum_cons, List.sum_nil, Value.category, Option.toList_some, Option.toList_none, Nat.reduceAdd, Nat.reduceSub, Nat.reduceLT, Nat.reduceLeDiff, Nat.zero_add, Nat.le_refl, true_and, and_true, Nat.sub_zero, Nat.zero_lt_succ, Nat.zero_le, Nat.not_lt_zero, Nat.reduceEqDiff, Nat.one_ne_zero, nI_toInt, Int.reduceEq, Int.reduceAdd, Int.reduceLT, Int.reduceLE, Int.cast_ofNat_Int, reduceIte, or_false, false_or, eq_self, or_true, true_or, or_self, nI_clamp, vp_in_nI, nI_ltI, nI_leI, nI_eq, nI_add, nI_zero9, nI_nlt0, nI_le0, nI_lt0, arG, va_rf, not_false_eq_true, not_true_eq_false, false_implies, true_implies, implies_true, ne_eq, okv_int, okv_z0, okv_z1, okv_zN, okv_ref, okv_arr, okv_null, vn_z0, vn_z1, vn_zN, nr_int, nr_z, va_up_self, up_fr, rw1_j, rw1_up, hM.1, hN.1]
  refine ⟨b + 1, a + 1, N 2, M 2, rfl, hN.2.1, hM.2.1, by omega, fun f1 g1 fr1 => ?_⟩
  simp (disch := omega) only [q_X9_copyFrom_0, q_X9_copyFrom_1, q_X9_copyFrom_4, q_X9_copyFrom_5, q_X9_copyFrom_8, q_X9_copyFrom_11, q_X9_copyFrom_12, q_X9_copyFrom_15, q_X9_copyFrom_16, q_X9_copyFrom_19, q_X9_copyFrom_22, q_X9_copyFrom_23, q_X9_copyFrom_26, q_X9_copyFrom_27, q_X9_copyFrom_30, q_X9_copyFrom_33, q_X9_copyFrom_34, q_X9_copyFrom_37, q_X9_copyFrom_38, q_X9_copyFrom_41, q_X9_copyFrom_44, xpush, xiload, xaload, xlload, xfload, xdload, lkill, xistore, xastore, xfstore, xlstore, xdstore, xiinc, xbin, xdiv, xun, xlbin, xi2l, xi2f, xi2d, xlcmp, xfcmp, xdcmp, xfdiv, xddiv, c1, xdup, xpop, xdup_x1, xdup2, xif, xicmp, xtab, xtabL, xget, xput, xald, xast, xalen, xnew, xnewa, c1s, recvOk, xcall, kont, xret, xlret, xfret, xdret, xaret, xvret, xs, xnewq, xastq, xcopy, xcopyF, xobj, xmax, xmin, xdead, xpushq, xmna, ls0, List.map_cons, List.map_nil, List.length_cons, List.length_nil, List.replicate, List.append_nil, List.cons_append, List.nil_append, List.getElem?_cons_zero, List.getElem?_cons_succ, List.getElem?_nil, List.set_cons_zero, List.set_cons_succ, List.take_succ_cons, List.take_zero, List.drop_succ_cons, List.drop_zero, List.reverse_cons, List.reverse_nil, List.sum_cons, List.sum_nil, Value.category, Option.toList_some, Option.toList_none, Nat.reduceAdd, Nat.reduceSub, Nat.reduceLT, Nat.reduceLeDiff, Nat.zero_add, Nat.le_refl, true_and, and_true, Nat.sub_zero, Nat.zero_lt_succ, Nat.zero_le, Nat.not_lt_zero, Nat.reduceEqDiff, Nat.one_ne_zero, nI_toInt, Int.reduceEq, Int.reduceAdd, Int.reduceLT, Int.reduceLE, Int.cast_ofNat_Int, reduceIte, or_false, false_or, eq_self, or_true, true_or, or_self, nI_clamp, vp_in_nI, nI_ltI, nI_leI, nI_eq, nI_add, nI_zero9, nI_nlt0, nI_le0, nI_lt0, arG, va_rf, not_false_eq_true, not_true_eq_false, false_implies, true_implies, implies_true, ne_eq, okv_int, okv_z0, okv_z1, okv_zN, okv_ref, okv_arr, okv_null, vn_z0, vn_z1, vn_zN, nr_int, nr_z, va_up_self, up_fr, rw1_j, rw1_up, (fr1 a (by omega)).trans hM.1, (fr1 b (by omega)).trans hN.1]
  refine ⟨b + 10, a + 10, N 3, M 3, rfl, hN.2.2.1.fr (fun q _ _ => fr1 q (by omega)), hM.2.2.1.fr (fun q _ _ => fr1 q (by omega)), by omega, fun f2 g2 fr2 => ?_⟩
  have fr2' : ∀ q, q < a ∨ a + 19 ≤ q → f2 q = f q := fun q hq => (fr2 q (by omega)).trans (fr1 q (by omega))
  have ea : f2 a = f a := (fr2 a (by omega)).trans (fr1 a (by omega))
  simp (disch := omega) only [q_X9_copyFrom_0, q_X9_copyFrom_1, q_X9_copyFrom_4, q_X9_copyFrom_5, q_X9_copyFrom_8, q_X9_copyFrom_11, q_X9_copyFrom_12, q_X9_copyFrom_15, q_X9_copyFrom_16, q_X9_copyFrom_19, q_X9_copyFrom_22, q_X9_copyFrom_23, q_X9_copyFrom_26, q_X9_copyFrom_27, q_X9_copyFrom_30, q_X9_copyFrom_33, q_X9_copyFrom_34, q_X9_copyFrom_37, q_X9_copyFrom_38, q_X9_copyFrom_41, q_X9_copyFrom_44, xpush, xiload, xaload, xlload, xfload, xdload, lkill, xistore, xastore, xfstore, xlstore, xdstore, xiinc, xbin, xdiv, xun, xlbin, xi2l, xi2f, xi2d, xlcmp, xfcmp, xdcmp, xfdiv, xddiv, c1, xdup, xpop, xdup_x1, xdup2, xif, xicmp, xtab, xtabL, xget, xput, xald, xast, xalen, xnew, xnewa, c1s, recvOk, xcall, kont, xret, xlret, xfret, xdret, xaret, xvret, xs, xnewq, xastq, xcopy, xcopyF, xobj, xmax, xmin, xdead, xpushq, xmna, ls0, List.map_cons, List.map_nil, List.length_cons, List.length_nil, List.replicate, List.append_nil, List.cons_append, List.nil_append, List.getElem?_cons_zero, List.getElem?_cons_succ, List.getElem?_nil, List.set_cons_zero, List.set_cons_succ, List.take_succ_cons, List.take_zero, List.drop_succ_cons, List.drop_zero, List.reverse_cons, List.reverse_nil, List.sum_cons, List.sum_nil, Value.category, Option.toList_some, Option.toList_none, Nat.reduceAdd, Nat.reduceSub, Nat.reduceLT, Nat.reduceLeDiff, Nat.zero_add, Nat.le_refl, true_and, and_true, Nat.sub_zero, Nat.zero_lt_succ, Nat.zero_le, Nat.not_lt_zero, Nat.reduceEqDiff, Nat.one_ne_zero, nI_toInt, Int.reduceEq, Int.reduceAdd, Int.reduceLT, Int.reduceLE, Int.cast_ofNat_Int, reduceIte, or_false, false_or, eq_self, or_true, true_or, or_self, nI_clamp, vp_in_nI, nI_ltI, nI_leI, nI_eq, nI_add, nI_zero9, nI_nlt0, nI_le0, nI_lt0, arG, va_rf, not_false_eq_true, not_true_eq_false, false_implies, true_implies, implies_true, ne_eq, okv_int, okv_z0, okv_z1, okv_zN, okv_ref, okv_arr, okv_null, vn_z0, vn_z1, vn_zN, nr_int, nr_z, va_up_self, up_fr, rw1_j, rw1_up, ea.trans hM.1, (fr2' b (by omega)).trans hN.1]
  refine ⟨b + 19, a + 19, N 4, M 4, rfl, hN.2.2.2.1.fr (fun q _ _ => fr2' q (by omega)), hM.2.2.2.1.fr (fun q _ _ => fr2' q (by omega)), by omega, fun f3 g3 fr3 => ?_⟩
  have fr3' : ∀ q, q < a ∨ a + 28 ≤ q → f3 q = f q := fun q hq => (fr3 q (by omega)).trans (fr2' q (by omega))
  have ea3 : f3 a = f a := (fr3 a (by omega)).trans ea
  simp (disch := omega) only [q_X9_copyFrom_0, q_X9_copyFrom_1, q_X9_copyFrom_4, q_X9_copyFrom_5, q_X9_copyFrom_8, q_X9_copyFrom_11, q_X9_copyFrom_12, q_X9_copyFrom_15, q_X9_copyFrom_16, q_X9_copyFrom_19, q_X9_copyFrom_22, q_X9_copyFrom_23, q_X9_copyFrom_26, q_X9_copyFrom_27, q_X9_copyFrom_30, q_X9_copyFrom_33, q_X9_copyFrom_34, q_X9_copyFrom_37, q_X9_copyFrom_38, q_X9_copyFrom_41, q_X9_copyFrom_44, xpush, xiload, xaload, xlload, xfload, xdload, lkill, xistore, xastore, xfstore, xlstore, xdstore, xiinc, xbin, xdiv, xun, xlbin, xi2l, xi2f, xi2d, xlcmp, xfcmp, xdcmp, xfdiv, xddiv, c1, xdup, xpop, xdup_x1, xdup2, xif, xicmp, xtab, xtabL, xget, xput, xald, xast, xalen, xnew, xnewa, c1s, recvOk, xcall, kont, xret, xlret, xfret, xdret, xaret, xvret, xs, xnewq, xastq, xcopy, xcopyF, xobj, xmax, xmin, xdead, xpushq, xmna, ls0, List.map_cons, List.map_nil, List.length_cons, List.length_nil, List.replicate, List.append_nil, List.cons_append, List.nil_append, List.getElem?_cons_zero, List.getElem?_cons_succ, List.getElem?_nil, List.set_cons_zero, List.set_cons_succ, List.take_succ_cons, List.take_zero, List.drop_succ_cons, List.drop_zero, List.reverse_cons, List.reverse_nil, List.sum_cons, List.sum_nil, Value.category, Option.toList_some, Option.toList_none, Nat.reduceAdd, Nat.reduceSub, Nat.reduceLT, Nat.reduceLeDiff, Nat.zero_add, Nat.le_refl, true_and, and_true, Nat.sub_zero, Nat.zero_lt_succ, Nat.zero_le, Nat.not_lt_zero, Nat.reduceEqDiff, Nat.one_ne_zero, nI_toInt, Int.reduceEq, Int.reduceAdd, Int.reduceLT, Int.reduceLE, Int.cast_ofNat_Int, reduceIte, or_false, false_or, eq_self, or_true, true_or, or_self, nI_clamp, vp_in_nI, nI_ltI, nI_leI, nI_eq, nI_add, nI_zero9, nI_nlt0, nI_le0, nI_lt0, arG, va_rf, not_false_eq_true, not_true_eq_false, false_implies, true_implies, implies_true, ne_eq, okv_int, okv_z0, okv_z1, okv_zN, okv_ref, okv_arr, okv_null, vn_z0, vn_z1, vn_zN, nr_int, nr_z, va_up_self, up_fr, rw1_j, rw1_up, ea3.trans hM.1, (fr3' b (by omega)).trans hN.1]
  refine ⟨b + 28, a + 28, N 5, M 5, rfl, hN.2.2.2.2.fr (fun q _ _ => fr3' q (by omega)), hM.2.2.2.2.fr (fun q _ _ => fr3' q (by omega)), by omega, fun f4 g4 fr4 => ?_⟩
  simp (disch := omega) only [q_X9_copyFrom_0, q_X9_copyFrom_1, q_X9_copyFrom_4, q_X9_copyFrom_5, q_X9_copyFrom_8, q_X9_copyFrom_11, q_X9_copyFrom_12, q_X9_copyFrom_15, q_X9_copyFrom_16, q_X9_copyFrom_19, q_X9_copyFrom_22, q_X9_copyFrom_23, q_X9_copyFrom_26, q_X9_copyFrom_27, q_X9_copyFrom_30, q_X9_copyFrom_33, q_X9_copyFrom_34, q_X9_copyFrom_37, q_X9_copyFrom_38, q_X9_copyFrom_41, q_X9_copyFrom_44, xpush, xiload, xaload, xlload, xfload, xdload, lkill, xistore, xastore, xfstore, xlstore, xdstore, xiinc, xbin, xdiv, xun, xlbin, xi2l, xi2f, xi2d, xlcmp, xfcmp, xdcmp, xfdiv, xddiv, c1, xdup, xpop, xdup_x1, xdup2, xif, xicmp, xtab, xtabL, xget, xput, xald, xast, xalen, xnew, xnewa, c1s, recvOk, xcall, kont, xret, xlret, xfret, xdret, xaret, xvret, xs, xnewq, xastq, xcopy, xcopyF, xobj, xmax, xmin, xdead, xpushq, xmna, ls0, List.map_cons, List.map_nil, List.length_cons, List.length_nil, List.replicate, List.append_nil, List.cons_append, List.nil_append, List.getElem?_cons_zero, List.getElem?_cons_succ, List.getElem?_nil, List.set_cons_zero, List.set_cons_succ, List.take_succ_cons, List.take_zero, List.drop_succ_cons, List.drop_zero, List.reverse_cons, List.reverse_nil, List.sum_cons, List.sum_nil, Value.category, Option.toList_some, Option.toList_none, Nat.reduceAdd, Nat.reduceSub, Nat.reduceLT, Nat.reduceLeDiff, Nat.zero_add, Nat.le_refl, true_and, and_true, Nat.sub_zero, Nat.zero_lt_succ, Nat.zero_le, Nat.not_lt_zero, Nat.reduceEqDiff, Nat.one_ne_zero, nI_toInt, Int.reduceEq, Int.reduceAdd, Int.reduceLT, Int.reduceLE, Int.cast_ofNat_Int, reduceIte, or_false, false_or, eq_self, or_true, true_or, or_self, nI_clamp, vp_in_nI, nI_ltI, nI_leI, nI_eq, nI_add, nI_zero9, nI_nlt0, nI_le0, nI_lt0, arG, va_rf, not_false_eq_true, not_true_eq_false, false_implies, true_implies, implies_true, ne_eq, okv_int, okv_z0, okv_z1, okv_zN, okv_ref, okv_arr, okv_null, vn_z0, vn_z1, vn_zN, nr_int, nr_z, va_up_self, up_fr, rw1_j, rw1_up]
  exact hK f4 ⟨(fr4 a (by omega)).trans (ea3.trans hM.1), g1.fr (fun q _ _ => (fr4 q (by omega)).trans ((fr3 q (by omega)).trans (fr2 q (by omega)))), g2.fr (fun q _ _ => (fr4 q (by omega)).trans (fr3 q (by omega))), g3.fr (fun q _ _ => fr4 q (by omega)), g4⟩ (fun q hq => (fr4 q (by omega)).trans (fr3' q (by omega))))
abbrev Sp_X9_loseAllOver : Spt := fun as z f K => ∃ (a i n : Nat) (M : Cm), as = [.ref a, .int (nI i), .int (nI n)] ∧ i < 8 ∧ n < 1048576 ∧ sm M ∧ isRt f a M ∧ ∀ f', isRt f' a (loA M i n 8) → (∀ q, q < a ∨ a + 37 ≤ q → f' q = f q) → K none z f'
def rm_X9_loseAllOver : Room := { frames := 1, cells := 0, slots := 0, locals := 23 }
def q_X9_loseAllOver_30 (ls : Ls) (st : List Value) (z : Zz) (f : Fm) (E : Ej) (R : Kr) : Prop := xvret ls st z f E R
def q_X9_loseAllOver_24 (ls : Ls) (st : List Value) (z : Zz) (f : Fm) (E : Ej) (R : Kr) : Prop := xiinc 3 (nI 1) (xs 2) ls st z f E R
def q_X9_loseAllOver_21 (ls : Ls) (st : List Value) (z : Zz) (f : Fm) (E : Ej) (R : Kr) : Prop := xcall 3 9 Sp_X9_lose 0 0 q_X9_loseAllOver_24 ls st z f E R
def q_X9_loseAllOver_20 (ls : Ls) (st : List Value) (z : Zz) (f : Fm) (E : Ej) (R : Kr) : Prop := xiload 3 q_X9_loseAllOver_21 ls st z f E R
def q_X9_loseAllOver_19 (ls : Ls) (st : List Value) (z : Zz) (f : Fm) (E : Ej) (R : Kr) : Prop := xiload 1 q_X9_loseAllOver_20 ls st z f E R
def q_X9_loseAllOver_18 (ls : Ls) (st : List Value) (z : Zz) (f : Fm) (E : Ej) (R : Kr) : Prop := xaload 0 q_X9_loseAllOver_19 ls st z f E R
def q_X9_loseAllOver_15 (ls : Ls) (st : List Value) (z : Zz) (f : Fm) (E : Ej) (R : Kr) : Prop := xif (fun x => x = 0) q_X9_loseAllOver_24 q_X9_loseAllOver_18 ls st z f E R
def q_X9_loseAllOver_12 (ls : Ls) (st : List Value) (z : Zz) (f : Fm) (E : Ej) (R : Kr) : Prop := xcall 4 9 Sp_X9_isOver 0 0 q_X9_loseAllOver_15 ls st z f E R
def q_X9_loseAllOver_11 (ls : Ls) (st : List Value) (z : Zz) (f : Fm) (E : Ej) (R : Kr) : Prop := xiload 2 q_X9_loseAllOver_12 ls st z f E R
def q_X9_loseAllOver_10 (ls : Ls) (st : List Value) (z : Zz) (f : Fm) (E : Ej) (R : Kr) : Prop := xiload 3 q_X9_loseAllOver_11 ls st z f E R
def q_X9_loseAllOver_9 (ls : Ls) (st : List Value) (z : Zz) (f : Fm) (E : Ej) (R : Kr) : Prop := xiload 1 q_X9_loseAllOver_10 ls st z f E R
def q_X9_loseAllOver_8 (ls : Ls) (st : List Value) (z : Zz) (f : Fm) (E : Ej) (R : Kr) : Prop := xaload 0 q_X9_loseAllOver_9 ls st z f E R
def q_X9_loseAllOver_5 (ls : Ls) (st : List Value) (z : Zz) (f : Fm) (E : Ej) (R : Kr) : Prop := xicmp (fun x y => y ≤ x) q_X9_loseAllOver_30 q_X9_loseAllOver_8 ls st z f E R
def q_X9_loseAllOver_3 (ls : Ls) (st : List Value) (z : Zz) (f : Fm) (E : Ej) (R : Kr) : Prop := xpush (.int (nI 8)) q_X9_loseAllOver_5 ls st z f E R
def q_X9_loseAllOver_2 (ls : Ls) (st : List Value) (z : Zz) (f : Fm) (E : Ej) (R : Kr) : Prop := xiload 3 q_X9_loseAllOver_3 ls st z f E R
def q_X9_loseAllOver_1 (ls : Ls) (st : List Value) (z : Zz) (f : Fm) (E : Ej) (R : Kr) : Prop := xistore 3 (xs 2) ls st z f E R
def q_X9_loseAllOver_0 (ls : Ls) (st : List Value) (z : Zz) (f : Fm) (E : Ej) (R : Kr) : Prop := xpush (.int (nI 0)) q_X9_loseAllOver_1 ls st z f E R
set_option maxRecDepth 100000 in
theorem t_X9_loseAllOver {s0 : State} {D : va_G} {ids : Nat → ClassId} {V : Nat → Nat} {l : Launch} {K : Kr} {E : Ej} (G : GG s0 D ids V) (X : EnX s0 D ids l RX9 cX9_loseAllOver 4 none "loseAllOver" rm_X9_loseAllOver K E) : Sd E K 0 q_X9_loseAllOver_0 ∧ Sd E K 2 q_X9_loseAllOver_2 := by
  have h30 : Sd E K 30 q_X9_loseAllOver_30 := sd_vret X (by decide +kernel : decode cX9_loseAllOver 30 = .ok (.return_, 1))
  have h27 : Sd E K 27 (xs 2) := sd_goto X (by decide +kernel : decode cX9_loseAllOver 27 = .ok (.goto (-25), 3)) (by decide) (sd_s 2)
  have h24 : Sd E K 24 q_X9_loseAllOver_24 := sd_iinc X (by decide +kernel : decode cX9_loseAllOver 24 = .ok (.iinc 3 1, 3)) (by decide +kernel) h27
  have h21 : Sd E K 21 q_X9_loseAllOver_21 := sd_callV (n := 2) (ci := 8) X (ct_X9_lose G) (by decide +kernel : decode cX9_loseAllOver 21 = .ok (.invokevirtual 33, 3)) wd_522 wd_519 wd_520 wd_521 wd_28 (by decide +kernel) (Or.inl ⟨by decide, _, _, rfl⟩) ⟨Nat.le_of_ble_eq_true rfl, Nat.le_of_ble_eq_true rfl⟩ h24
  have h20 : Sd E K 20 q_X9_loseAllOver_20 := sd_iload_n X (by decide +kernel : decode cX9_loseAllOver 20 = .ok (.iload_n 3, 1)) rfl h21
  have h19 : Sd E K 19 q_X9_loseAllOver_19 := sd_iload_n X (by decide +kernel : decode cX9_loseAllOver 19 = .ok (.iload_n 1, 1)) rfl h20
  have h18 : Sd E K 18 q_X9_loseAllOver_18 := sd_aload_n X (by decide +kernel : decode cX9_loseAllOver 18 = .ok (.aload_n 0, 1)) rfl h19
  have h15 : Sd E K 15 q_X9_loseAllOver_15 := sd_if_eq X (by decide +kernel : decode cX9_loseAllOver 15 = .ok (.ifCond .eq 9, 3)) (by decide) h24 h18
  have h12 : Sd E K 12 q_X9_loseAllOver_12 := sd_callV (n := 3) (ci := 8) X (ct_X9_isOver G) (by decide +kernel : decode cX9_loseAllOver 12 = .ok (.invokevirtual 29, 3)) wd_518 wd_515 wd_516 wd_517 wd_28 (by decide +kernel) (Or.inl ⟨by decide, _, _, rfl⟩) ⟨Nat.le_of_ble_eq_true rfl, Nat.le_of_ble_eq_true rfl⟩ h15
  have h11 : Sd E K 11 q_X9_loseAllOver_11 := sd_iload_n X (by decide +kernel : decode cX9_loseAllOver 11 = .ok (.iload_n 2, 1)) rfl h12
  have h10 : Sd E K 10 q_X9_loseAllOver_10 := sd_iload_n X (by decide +kernel : decode cX9_loseAllOver 10 = .ok (.iload_n 3, 1)) rfl h11
  have h9 : Sd E K 9 q_X9_loseAllOver_9 := sd_iload_n X (by decide +kernel : decode cX9_loseAllOver 9 = .ok (.iload_n 1, 1)) rfl h10
  have h8 : Sd E K 8 q_X9_loseAllOver_8 := sd_aload_n X (by decide +kernel : decode cX9_loseAllOver 8 = .ok (.aload_n 0, 1)) rfl h9
  have h5 : Sd E K 5 q_X9_loseAllOver_5 := sd_icmp_ge X (by decide +kernel : decode cX9_loseAllOver 5 = .ok (.if_icmp .ge 25, 3)) (by decide) h30 h8
  have h3 : Sd E K 3 q_X9_loseAllOver_3 := sd_bipush X (by decide +kernel : decode cX9_loseAllOver 3 = .ok (.bipush 8, 2)) (by decide +kernel) h5
  have h2 : Sd E K 2 q_X9_loseAllOver_2 := sd_iload_n X (by decide +kernel : decode cX9_loseAllOver 2 = .ok (.iload_n 3, 1)) rfl h3
  have h1 : Sd E K 1 q_X9_loseAllOver_1 := sd_istore_n X (by decide +kernel : decode cX9_loseAllOver 1 = .ok (.istore_n 3, 1)) rfl (sd_s 2)
  have h0 : Sd E K 0 q_X9_loseAllOver_0 := sd_iconst X (by decide +kernel : decode cX9_loseAllOver 0 = .ok (.iconst 0, 1)) (by decide +kernel) h1
  exact ⟨h0, h2⟩
set_option maxHeartbeats 4000000 in
set_option maxRecDepth 100000 in
theorem ct_X9_loseAllOver {s0 : State} {D : va_G} {ids : Nat → ClassId} {V : Nat → Nat} {l : Launch} (G : GG s0 D ids V) : CT s0 D ids l yX9_loseAllOver cX9_loseAllOver 4 none rm_X9_loseAllOver Sp_X9_loseAllOver := CT.of (by decide +kernel) G.k (by
  rintro as z f K E ⟨a, i, n, M, rfl, hi, hn, hS, hR, hK⟩ X
  obtain ⟨t0, t1⟩ := t_X9_loseAllOver G X
  refine ⟨Nat.le_of_ble_eq_true rfl, by simp [Value.category], t0 _ _ _ _ ?_⟩
  simp (disch := omega) only [q_X9_loseAllOver_0, q_X9_loseAllOver_1, q_X9_loseAllOver_2, q_X9_loseAllOver_3, q_X9_loseAllOver_5, q_X9_loseAllOver_8, q_X9_loseAllOver_9, q_X9_loseAllOver_10, q_X9_loseAllOver_11, q_X9_loseAllOver_12, q_X9_loseAllOver_15, q_X9_loseAllOver_18, q_X9_loseAllOver_19, q_X9_loseAllOver_20, q_X9_loseAllOver_21, q_X9_loseAllOver_24, q_X9_loseAllOver_30, xpush, xiload, xaload, xlload, xfload, xdload, lkill, xistore, xastore, xfstore, xlstore, xdstore, xiinc, xbin, xdiv, xun, xlbin, xi2l, xi2f, xi2d, xlcmp, xfcmp, xdcmp, xfdiv, xddiv, c1, xdup, xpop, xdup_x1, xdup2, xif, xicmp, xtab, xtabL, xget, xput, xald, xast, xalen, xnew, xnewa, c1s, recvOk, xcall, kont, xret, xlret, xfret, xdret, xaret, xvret, xs, xnewq, xastq, xcopy, xcopyF, xobj, xmax, xmin, xdead, xpushq, xmna, ls0, List.map_cons, List.map_nil, List.length_cons, List.length_nil, List.replicate, List.append_nil, List.cons_append, List.nil_append, List.getElem?_cons_zero, List.getElem?_cons_succ, List.getElem?_nil, List.set_cons_zero, List.set_cons_succ, List.take_succ_cons, List.take_zero, List.drop_succ_cons, List.drop_zero, List.reverse_cons, List.reverse_nil, List.sum_cons, List.sum_nil, Value.category, Option.toList_some, Option.toList_none, Nat.reduceAdd, Nat.reduceSub, Nat.reduceLT, Nat.reduceLeDiff, Nat.zero_add, Nat.le_refl, true_and, and_true, Nat.sub_zero, Nat.zero_lt_succ, Nat.zero_le, Nat.not_lt_zero, Nat.reduceEqDiff, Nat.one_ne_zero, nI_toInt, Int.reduceEq, Int.reduceAdd, Int.reduceLT, Int.reduceLE, Int.cast_ofNat_Int, reduceIte, or_false, false_or, eq_self, or_true, true_or, or_self, nI_clamp, vp_in_nI, nI_ltI, nI_leI, nI_eq, nI_add, nI_zero9, nI_nlt0, nI_le0, nI_lt0, arG, va_rf, not_false_eq_true, not_true_eq_false, false_implies, true_implies, implies_true, ne_eq, okv_int, okv_z0, okv_z1, okv_zN, okv_ref, okv_arr, okv_null, vn_z0, vn_z1, vn_zN, nr_int, nr_z, va_up_self, up_fr, rw1_j, rw1_up]
  refine dnR (N := 8) (R := fun k f' => isRt f' a (loA M i n k) ∧ ∀ q, q < a ∨ a + 37 ≤ q → f' q = f q) (P := fun k f' => E 2 [some (.ref a), some (.int (nI i)), some (.int (nI n)), some (.int (nI k))] [] (z, 0, 0) f') ?_ ?_ 0 (by omega) f ⟨hR, fun q hq => rfl⟩
  · rintro f' ⟨h1, h2⟩
    refine t1 _ _ _ _ ?_
    simp (disch := omega) only [q_X9_loseAllOver_0, q_X9_loseAllOver_1, q_X9_loseAllOver_2, q_X9_loseAllOver_3, q_X9_loseAllOver_5, q_X9_loseAllOver_8, q_X9_loseAllOver_9, q_X9_loseAllOver_10, q_X9_loseAllOver_11, q_X9_loseAllOver_12, q_X9_loseAllOver_15, q_X9_loseAllOver_18, q_X9_loseAllOver_19, q_X9_loseAllOver_20, q_X9_loseAllOver_21, q_X9_loseAllOver_24, q_X9_loseAllOver_30, xpush, xiload, xaload, xlload, xfload, xdload, lkill, xistore, xastore, xfstore, xlstore, xdstore, xiinc, xbin, xdiv, xun, xlbin, xi2l, xi2f, xi2d, xlcmp, xfcmp, xdcmp, xfdiv, xddiv, c1, xdup, xpop, xdup_x1, xdup2, xif, xicmp, xtab, xtabL, xget, xput, xald, xast, xalen, xnew, xnewa, c1s, recvOk, xcall, kont, xret, xlret, xfret, xdret, xaret, xvret, xs, xnewq, xastq, xcopy, xcopyF, xobj, xmax, xmin, xdead, xpushq, xmna, ls0, List.map_cons, List.map_nil, List.length_cons, List.length_nil, List.replicate, List.append_nil, List.cons_append, List.nil_append, List.getElem?_cons_zero, List.getElem?_cons_succ, List.getElem?_nil, List.set_cons_zero, List.set_cons_succ, List.take_succ_cons, List.take_zero, List.drop_succ_cons, List.drop_zero, List.reverse_cons, List.reverse_nil, List.sum_cons, List.sum_nil, Value.category, Option.toList_some, Option.toList_none, Nat.reduceAdd, Nat.reduceSub, Nat.reduceLT, Nat.reduceLeDiff, Nat.zero_add, Nat.le_refl, true_and, and_true, Nat.sub_zero, Nat.zero_lt_succ, Nat.zero_le, Nat.not_lt_zero, Nat.reduceEqDiff, Nat.one_ne_zero, nI_toInt, Int.reduceEq, Int.reduceAdd, Int.reduceLT, Int.reduceLE, Int.cast_ofNat_Int, reduceIte, or_false, false_or, eq_self, or_true, true_or, or_self, nI_clamp, vp_in_nI, nI_ltI, nI_leI, nI_eq, nI_add, nI_zero9, nI_nlt0, nI_le0, nI_lt0, arG, va_rf, not_false_eq_true, not_true_eq_false, false_implies, true_implies, implies_true, ne_eq, okv_int, okv_z0, okv_z1, okv_zN, okv_ref, okv_arr, okv_null, vn_z0, vn_z1, vn_zN, nr_int, nr_z, va_up_self, up_fr, rw1_j, rw1_up]
    exact hK f' h1 h2
  · rintro k hk ih f' ⟨h1, h2⟩
    refine t1 _ _ _ _ ?_
    simp (disch := omega) only [q_X9_loseAllOver_0, q_X9_loseAllOver_1, q_X9_loseAllOver_2, q_X9_loseAllOver_3, q_X9_loseAllOver_5, q_X9_loseAllOver_8, q_X9_loseAllOver_9, q_X9_loseAllOver_10, q_X9_loseAllOver_11, q_X9_loseAllOver_12, q_X9_loseAllOver_15, q_X9_loseAllOver_18, q_X9_loseAllOver_19, q_X9_loseAllOver_20, q_X9_loseAllOver_21, q_X9_loseAllOver_24, q_X9_loseAllOver_30, xpush, xiload, xaload, xlload, xfload, xdload, lkill, xistore, xastore, xfstore, xlstore, xdstore, xiinc, xbin, xdiv, xun, xlbin, xi2l, xi2f, xi2d, xlcmp, xfcmp, xdcmp, xfdiv, xddiv, c1, xdup, xpop, xdup_x1, xdup2, xif, xicmp, xtab, xtabL, xget, xput, xald, xast, xalen, xnew, xnewa, c1s, recvOk, xcall, kont, xret, xlret, xfret, xdret, xaret, xvret, xs, xnewq, xastq, xcopy, xcopyF, xobj, xmax, xmin, xdead, xpushq, xmna, ls0, List.map_cons, List.map_nil, List.length_cons, List.length_nil, List.replicate, List.append_nil, List.cons_append, List.nil_append, List.getElem?_cons_zero, List.getElem?_cons_succ, List.getElem?_nil, List.set_cons_zero, List.set_cons_succ, List.take_succ_cons, List.take_zero, List.drop_succ_cons, List.drop_zero, List.reverse_cons, List.reverse_nil, List.sum_cons, List.sum_nil, Value.category, Option.toList_some, Option.toList_none, Nat.reduceAdd, Nat.reduceSub, Nat.reduceLT, Nat.reduceLeDiff, Nat.zero_add, Nat.le_refl, true_and, and_true, Nat.sub_zero, Nat.zero_lt_succ, Nat.zero_le, Nat.not_lt_zero, Nat.reduceEqDiff, Nat.one_ne_zero, nI_toInt, Int.reduceEq, Int.reduceAdd, Int.reduceLT, Int.reduceLE, Int.cast_ofNat_Int, reduceIte, or_false, false_or, eq_self, or_true, true_or, or_self, nI_clamp, vp_in_nI, nI_ltI, nI_leI, nI_eq, nI_add, nI_zero9, nI_nlt0, nI_le0, nI_lt0, arG, va_rf, not_false_eq_true, not_true_eq_false, false_implies, true_implies, implies_true, ne_eq, okv_int, okv_z0, okv_z1, okv_zN, okv_ref, okv_arr, okv_null, vn_z0, vn_z1, vn_zN, nr_int, nr_z, va_up_self, up_fr, rw1_j, rw1_up, h1.1, Nat.not_le.mpr hk]
    refine ⟨a, i, k, n, _, rfl, hi, hk, hn, hS.loA i n k, h1, ?_⟩
    by_cases q : 0 < loA M i n k 2 i k ∧ loA M i n k 3 i k = n
    · simp (disch := omega) only [q_X9_loseAllOver_0, q_X9_loseAllOver_1, q_X9_loseAllOver_2, q_X9_loseAllOver_3, q_X9_loseAllOver_5, q_X9_loseAllOver_8, q_X9_loseAllOver_9, q_X9_loseAllOver_10, q_X9_loseAllOver_11, q_X9_loseAllOver_12, q_X9_loseAllOver_15, q_X9_loseAllOver_18, q_X9_loseAllOver_19, q_X9_loseAllOver_20, q_X9_loseAllOver_21, q_X9_loseAllOver_24, q_X9_loseAllOver_30, xpush, xiload, xaload, xlload, xfload, xdload, lkill, xistore, xastore, xfstore, xlstore, xdstore, xiinc, xbin, xdiv, xun, xlbin, xi2l, xi2f, xi2d, xlcmp, xfcmp, xdcmp, xfdiv, xddiv, c1, xdup, xpop, xdup_x1, xdup2, xif, xicmp, xtab, xtabL, xget, xput, xald, xast, xalen, xnew, xnewa, c1s, recvOk, xcall, kont, xret, xlret, xfret, xdret, xaret, xvret, xs, xnewq, xastq, xcopy, xcopyF, xobj, xmax, xmin, xdead, xpushq, xmna, ls0, List.map_cons, List.map_nil, List.length_cons, List.length_nil, List.replicate, List.append_nil, List.cons_append, List.nil_append, List.getElem?_cons_zero, List.getElem?_cons_succ, List.getElem?_nil, List.set_cons_zero, List.set_cons_succ, List.take_succ_cons, List.take_zero, List.drop_succ_cons, List.drop_zero, List.reverse_cons, List.reverse_nil, List.sum_cons, List.sum_nil, Value.category, Option.toList_some, Option.toList_none, Nat.reduceAdd, Nat.reduceSub, Nat.reduceLT, Nat.reduceLeDiff, Nat.zero_add, Nat.le_refl, true_and, and_true, Nat.sub_zero, Nat.zero_lt_succ, Nat.zero_le, Nat.not_lt_zero, Nat.reduceEqDiff, Nat.one_ne_zero, nI_toInt, Int.reduceEq, Int.reduceAdd, Int.reduceLT, Int.reduceLE, Int.cast_ofNat_Int, reduceIte, or_false, false_or, eq_self, or_true, true_or, or_self, nI_clamp, vp_in_nI, nI_ltI, nI_leI, nI_eq, nI_add, nI_zero9, nI_nlt0, nI_le0, nI_lt0, arG, va_rf, not_false_eq_true, not_true_eq_false, false_implies, true_implies, implies_true, ne_eq, okv_int, okv_z0, okv_z1, okv_zN, okv_ref, okv_arr, okv_null, vn_z0, vn_z1, vn_zN, nr_int, nr_z, va_up_self, up_fr, rw1_j, rw1_up, q, h1.1]
      refine ⟨a, i, k, _, rfl, hi, hk, h1, fun f2 g1 g2 => ?_⟩
      simp (disch := omega) only [q_X9_loseAllOver_0, q_X9_loseAllOver_1, q_X9_loseAllOver_2, q_X9_loseAllOver_3, q_X9_loseAllOver_5, q_X9_loseAllOver_8, q_X9_loseAllOver_9, q_X9_loseAllOver_10, q_X9_loseAllOver_11, q_X9_loseAllOver_12, q_X9_loseAllOver_15, q_X9_loseAllOver_18, q_X9_loseAllOver_19, q_X9_loseAllOver_20, q_X9_loseAllOver_21, q_X9_loseAllOver_24, q_X9_loseAllOver_30, xpush, xiload, xaload, xlload, xfload, xdload, lkill, xistore, xastore, xfstore, xlstore, xdstore, xiinc, xbin, xdiv, xun, xlbin, xi2l, xi2f, xi2d, xlcmp, xfcmp, xdcmp, xfdiv, xddiv, c1, xdup, xpop, xdup_x1, xdup2, xif, xicmp, xtab, xtabL, xget, xput, xald, xast, xalen, xnew, xnewa, c1s, recvOk, xcall, kont, xret, xlret, xfret, xdret, xaret, xvret, xs, xnewq, xastq, xcopy, xcopyF, xobj, xmax, xmin, xdead, xpushq, xmna, ls0, List.map_cons, List.map_nil, List.length_cons, List.length_nil, List.replicate, List.append_nil, List.cons_append, List.nil_append, List.getElem?_cons_zero, List.getElem?_cons_succ, List.getElem?_nil, List.set_cons_zero, List.set_cons_succ, List.take_succ_cons, List.take_zero, List.drop_succ_cons, List.drop_zero, List.reverse_cons, List.reverse_nil, List.sum_cons, List.sum_nil, Value.category, Option.toList_some, Option.toList_none, Nat.reduceAdd, Nat.reduceSub, Nat.reduceLT, Nat.reduceLeDiff, Nat.zero_add, Nat.le_refl, true_and, and_true, Nat.sub_zero, Nat.zero_lt_succ, Nat.zero_le, Nat.not_lt_zero, Nat.reduceEqDiff, Nat.one_ne_zero, nI_toInt, Int.reduceEq, Int.reduceAdd, Int.reduceLT, Int.reduceLE, Int.cast_ofNat_Int, reduceIte, or_false, false_or, eq_self, or_true, true_or, or_self, nI_clamp, vp_in_nI, nI_ltI, nI_leI, nI_eq, nI_add, nI_zero9, nI_nlt0, nI_le0, nI_lt0, arG, va_rf, not_false_eq_true, not_true_eq_false, false_implies, true_implies, implies_true, ne_eq, okv_int, okv_z0, okv_z1, okv_zN, okv_ref, okv_arr, okv_null, vn_z0, vn_z1, vn_zN, nr_int, nr_z, va_up_self, up_fr, rw1_j, rw1_up]
      refine ih f2 ⟨?_, fun q hq => (g2 q hq).trans (h2 q hq)⟩
      show isRt f2 a (if _ then _ else _)
      rw [if_pos q]
      exact g1
    · simp (disch := omega) only [q_X9_loseAllOver_0, q_X9_loseAllOver_1, q_X9_loseAllOver_2, q_X9_loseAllOver_3, q_X9_loseAllOver_5, q_X9_loseAllOver_8, q_X9_loseAllOver_9, q_X9_loseAllOver_10, q_X9_loseAllOver_11, q_X9_loseAllOver_12, q_X9_loseAllOver_15, q_X9_loseAllOver_18, q_X9_loseAllOver_19, q_X9_loseAllOver_20, q_X9_loseAllOver_21, q_X9_loseAllOver_24, q_X9_loseAllOver_30, xpush, xiload, xaload, xlload, xfload, xdload, lkill, xistore, xastore, xfstore, xlstore, xdstore, xiinc, xbin, xdiv, xun, xlbin, xi2l, xi2f, xi2d, xlcmp, xfcmp, xdcmp, xfdiv, xddiv, c1, xdup, xpop, xdup_x1, xdup2, xif, xicmp, xtab, xtabL, xget, xput, xald, xast, xalen, xnew, xnewa, c1s, recvOk, xcall, kont, xret, xlret, xfret, xdret, xaret, xvret, xs, xnewq, xastq, xcopy, xcopyF, xobj, xmax, xmin, xdead, xpushq, xmna, ls0, List.map_cons, List.map_nil, List.length_cons, List.length_nil, List.replicate, List.append_nil, List.cons_append, List.nil_append, List.getElem?_cons_zero, List.getElem?_cons_succ, List.getElem?_nil, List.set_cons_zero, List.set_cons_succ, List.take_succ_cons, List.take_zero, List.drop_succ_cons, List.drop_zero, List.reverse_cons, List.reverse_nil, List.sum_cons, List.sum_nil, Value.category, Option.toList_some, Option.toList_none, Nat.reduceAdd, Nat.reduceSub, Nat.reduceLT, Nat.reduceLeDiff, Nat.zero_add, Nat.le_refl, true_and, and_true, Nat.sub_zero, Nat.zero_lt_succ, Nat.zero_le, Nat.not_lt_zero, Nat.reduceEqDiff, Nat.one_ne_zero, nI_toInt, Int.reduceEq, Int.reduceAdd, Int.reduceLT, Int.reduceLE, Int.cast_ofNat_Int, reduceIte, or_false, false_or, eq_self, or_true, true_or, or_self, nI_clamp, vp_in_nI, nI_ltI, nI_leI, nI_eq, nI_add, nI_zero9, nI_nlt0, nI_le0, nI_lt0, arG, va_rf, not_false_eq_true, not_true_eq_false, false_implies, true_implies, implies_true, ne_eq, okv_int, okv_z0, okv_z1, okv_zN, okv_ref, okv_arr, okv_null, vn_z0, vn_z1, vn_zN, nr_int, nr_z, va_up_self, up_fr, rw1_j, rw1_up, q, h1.1]
      refine ih f' ⟨?_, h2⟩
      show isRt f' a (if _ then _ else _)
      rw [if_neg q]
      exact h1)
