/-! Routes, Roads: reads -/
def Sp_X9_isKnown : Spt := fun as z f K => ∃ (a i j : Nat) (M : Cm), as = [.ref a, .int (nI i), .int (nI j)] ∧ i < 8 ∧ j < 8 ∧ M 2 i j < 1048576 ∧ isRt f a M ∧ K (some (.int (nI (if 0 < M 2 i j then 1 else 0)))) z f
def rm_X9_isKnown : Room := { frames := 0, cells := 0, slots := 0, locals := 0 }
def q_X9_isKnown_16 : Xf := xret .boolean
def q_X9_isKnown_15 : Xf := xpush (.int (nI 0)) q_X9_isKnown_16
def q_X9_isKnown_11 : Xf := xpush (.int (nI 1)) q_X9_isKnown_16
def q_X9_isKnown_8 : Xf := xif (fun x => x ≤ 0) q_X9_isKnown_15 q_X9_isKnown_11
def q_X9_isKnown_7 : Xf := xald 1 7 q_X9_isKnown_8
def q_X9_isKnown_6 : Xf := xiload 2 q_X9_isKnown_7
def q_X9_isKnown_5 : Xf := xald 4 4 q_X9_isKnown_6
def q_X9_isKnown_4 : Xf := xiload 1 q_X9_isKnown_5
def q_X9_isKnown_1 : Xf := xget 8 0 q_X9_isKnown_4
def q_X9_isKnown_0 : Xf := xaload 0 q_X9_isKnown_1
set_option maxRecDepth 100000 in
theorem t_X9_isKnown {s0 : State} {D : va_G} {ids : Nat → ClassId} {V : Nat → Nat} {l : Launch} {K : Kr} {E : Ej} (G : GG s0 D ids V) (X : EnX s0 D ids l RX9 cX9_isKnown 3 (some .boolean) "isKnown" rm_X9_isKnown K E) : Sd E K 0 q_X9_isKnown_0 := by
  have h16 : Sd E K 16 q_X9_isKnown_16 := sd_ret X (by decide +kernel : decode cX9_isKnown 16 = .ok (.ireturn, 1))
  have h15 : Sd E K 15 q_X9_isKnown_15 := sd_iconst X (by decide +kernel : decode cX9_isKnown 15 = .ok (.iconst 0, 1)) (by decide +kernel) h16
  have h12 : Sd E K 12 q_X9_isKnown_16 := sd_goto X (by decide +kernel : decode cX9_isKnown 12 = .ok (.goto 4, 3)) (by decide) h16
  have h11 : Sd E K 11 q_X9_isKnown_11 := sd_iconst X (by decide +kernel : decode cX9_isKnown 11 = .ok (.iconst 1, 1)) (by decide +kernel) h12
  have h8 : Sd E K 8 q_X9_isKnown_8 := sd_if_le X (by decide +kernel : decode cX9_isKnown 8 = .ok (.ifCond .le 7, 3)) (by decide) h15 h11
  have h7 : Sd E K 7 q_X9_isKnown_7 := sd_iald X (by decide +kernel : decode cX9_isKnown 7 = .ok (.iaload, 1)) h8
  have h6 : Sd E K 6 q_X9_isKnown_6 := sd_iload_n X (by decide +kernel : decode cX9_isKnown 6 = .ok (.iload_n 2, 1)) rfl h7
  have h5 : Sd E K 5 q_X9_isKnown_5 := sd_aald X rfl (by decide +kernel : decode cX9_isKnown 5 = .ok (.aaload, 1)) h6
  have h4 : Sd E K 4 q_X9_isKnown_4 := sd_iload_n X (by decide +kernel : decode cX9_isKnown 4 = .ok (.iload_n 1, 1)) rfl h5
  have h1 : Sd E K 1 q_X9_isKnown_1 := sd_get X (by decide +kernel : decode cX9_isKnown 1 = .ok (.getfield 11, 3)) ok_X9 (Nat.le_of_ble_eq_true rfl) wd_95 h4
  have h0 : Sd E K 0 q_X9_isKnown_0 := sd_aload_n X (by decide +kernel : decode cX9_isKnown 0 = .ok (.aload_n 0, 1)) rfl h1
  exact h0
set_option maxHeartbeats 4000000 in
set_option maxRecDepth 100000 in
theorem ct_X9_isKnown {s0 : State} {D : va_G} {ids : Nat → ClassId} {V : Nat → Nat} {l : Launch} (G : GG s0 D ids V) : CT s0 D ids l yX9_isKnown cX9_isKnown 3 (some .boolean) rm_X9_isKnown Sp_X9_isKnown := CT.of (by decide +kernel) G.k (by
  rintro as z f K E ⟨a, i, j, M, rfl, hi, hj, hM, hR, hK⟩ X
  refine ⟨Nat.le_of_ble_eq_true rfl, by simp [Value.category], t_X9_isKnown G X _ _ _ _ ?_⟩
  obtain ⟨h0, ⟨h1, h2⟩, -⟩ := hR
  have h2 := h2 i hi
  simp (disch := omega) only [q_X9_isKnown_0, q_X9_isKnown_1, q_X9_isKnown_4, q_X9_isKnown_5, q_X9_isKnown_6, q_X9_isKnown_7, q_X9_isKnown_8, q_X9_isKnown_11, q_X9_isKnown_15, q_X9_isKnown_16, xpush, xiload, xaload, xlload, xfload, xdload, lkill, xistore, xastore, xfstore, xlstore, xdstore, xiinc, xbin, xdiv, xun, xlbin, xi2l, xi2f, xi2d, xlcmp, xfcmp, xdcmp, xfdiv, xddiv, c1, xdup, xpop, xdup_x1, xdup2, xif, xicmp, xtab, xget, xput, xald, xast, xalen, xnew, xnewa, c1s, recvOk, xcall, xret, xlret, xfret, xdret, xaret, xvret, xs, xnewq, xastq, xcopy, xobj, xmax, xmin, xdead, ls0, List.map_cons, List.map_nil, List.length_cons, List.length_nil, List.replicate, List.append_nil, List.cons_append, List.nil_append, List.getElem?_cons_zero, List.getElem?_cons_succ, List.getElem?_nil, List.set_cons_zero, List.set_cons_succ, List.take_succ_cons, List.take_zero, List.drop_succ_cons, List.drop_zero, List.reverse_cons, List.reverse_nil, List.sum_cons, List.sum_nil, Value.category, Option.toList_some, Option.toList_none, Nat.reduceAdd, Nat.reduceSub, Nat.reduceLT, Nat.reduceLeDiff, Nat.zero_add, Nat.le_refl, true_and, and_true, Nat.sub_zero, Nat.zero_lt_succ, Nat.zero_le, reduceIte, or_true, true_or, or_self, nI_clamp, vp_in_nI, nI_ltI, nI_leI, nI_eq, nI_add, nI_zero9, nI_nlt0, nI_le0, nI_lt0, arG, va_rf, not_false_eq_true, not_true_eq_false, false_implies, true_implies, implies_true, ne_eq, okv_int, okv_z0, okv_z1, okv_zN, okv_ref, okv_arr, okv_null, vn_int, vn_z0, vn_z1, vn_zN, nr_int, nr_z, va_up_self, up_fr, h0, h1, h2, hi, rwM]
  refine ⟨fun q => ?_, fun q => ?_⟩
  · rwa [if_neg (by omega)] at hK
  · rwa [if_pos (by omega)] at hK)
def Sp_X9_isOver : Spt := fun as z f K => ∃ (a i j n : Nat) (M : Cm), as = [.ref a, .int (nI i), .int (nI j), .int (nI n)] ∧ i < 8 ∧ j < 8 ∧ n < 1048576 ∧ sm M ∧ isRt f a M ∧ K (some (.int (nI (if 0 < M 2 i j ∧ M 3 i j = n then 1 else 0)))) z f
def rm_X9_isOver : Room := { frames := 0, cells := 0, slots := 0, locals := 0 }
def q_X9_isOver_28 : Xf := xret .boolean
def q_X9_isOver_27 : Xf := xpush (.int (nI 0)) q_X9_isOver_28
def q_X9_isOver_23 : Xf := xpush (.int (nI 1)) q_X9_isOver_28
def q_X9_isOver_20 : Xf := xicmp (fun x y => ¬ x = y) q_X9_isOver_27 q_X9_isOver_23
def q_X9_isOver_19 : Xf := xiload 3 q_X9_isOver_20
def q_X9_isOver_18 : Xf := xald 1 7 q_X9_isOver_19
def q_X9_isOver_17 : Xf := xiload 2 q_X9_isOver_18
def q_X9_isOver_16 : Xf := xald 4 4 q_X9_isOver_17
def q_X9_isOver_15 : Xf := xiload 1 q_X9_isOver_16
def q_X9_isOver_12 : Xf := xget 8 1 q_X9_isOver_15
def q_X9_isOver_11 : Xf := xaload 0 q_X9_isOver_12
def q_X9_isOver_8 : Xf := xif (fun x => x ≤ 0) q_X9_isOver_27 q_X9_isOver_11
def q_X9_isOver_7 : Xf := xald 1 7 q_X9_isOver_8
def q_X9_isOver_6 : Xf := xiload 2 q_X9_isOver_7
def q_X9_isOver_5 : Xf := xald 4 4 q_X9_isOver_6
def q_X9_isOver_4 : Xf := xiload 1 q_X9_isOver_5
def q_X9_isOver_1 : Xf := xget 8 0 q_X9_isOver_4
def q_X9_isOver_0 : Xf := xaload 0 q_X9_isOver_1
set_option maxRecDepth 100000 in
theorem t_X9_isOver {s0 : State} {D : va_G} {ids : Nat → ClassId} {V : Nat → Nat} {l : Launch} {K : Kr} {E : Ej} (G : GG s0 D ids V) (X : EnX s0 D ids l RX9 cX9_isOver 4 (some .boolean) "isOver" rm_X9_isOver K E) : Sd E K 0 q_X9_isOver_0 := by
  have h28 : Sd E K 28 q_X9_isOver_28 := sd_ret X (by decide +kernel : decode cX9_isOver 28 = .ok (.ireturn, 1))
  have h27 : Sd E K 27 q_X9_isOver_27 := sd_iconst X (by decide +kernel : decode cX9_isOver 27 = .ok (.iconst 0, 1)) (by decide +kernel) h28
  have h24 : Sd E K 24 q_X9_isOver_28 := sd_goto X (by decide +kernel : decode cX9_isOver 24 = .ok (.goto 4, 3)) (by decide) h28
  have h23 : Sd E K 23 q_X9_isOver_23 := sd_iconst X (by decide +kernel : decode cX9_isOver 23 = .ok (.iconst 1, 1)) (by decide +kernel) h24
  have h20 : Sd E K 20 q_X9_isOver_20 := sd_icmp_ne X (by decide +kernel : decode cX9_isOver 20 = .ok (.if_icmp .ne 7, 3)) (by decide) h27 h23
  have h19 : Sd E K 19 q_X9_isOver_19 := sd_iload_n X (by decide +kernel : decode cX9_isOver 19 = .ok (.iload_n 3, 1)) rfl h20
  have h18 : Sd E K 18 q_X9_isOver_18 := sd_iald X (by decide +kernel : decode cX9_isOver 18 = .ok (.iaload, 1)) h19
  have h17 : Sd E K 17 q_X9_isOver_17 := sd_iload_n X (by decide +kernel : decode cX9_isOver 17 = .ok (.iload_n 2, 1)) rfl h18
  have h16 : Sd E K 16 q_X9_isOver_16 := sd_aald X rfl (by decide +kernel : decode cX9_isOver 16 = .ok (.aaload, 1)) h17
  have h15 : Sd E K 15 q_X9_isOver_15 := sd_iload_n X (by decide +kernel : decode cX9_isOver 15 = .ok (.iload_n 1, 1)) rfl h16
  have h12 : Sd E K 12 q_X9_isOver_12 := sd_get X (by decide +kernel : decode cX9_isOver 12 = .ok (.getfield 16, 3)) ok_X9 (Nat.le_of_ble_eq_true rfl) wd_98 h15
  have h11 : Sd E K 11 q_X9_isOver_11 := sd_aload_n X (by decide +kernel : decode cX9_isOver 11 = .ok (.aload_n 0, 1)) rfl h12
  have h8 : Sd E K 8 q_X9_isOver_8 := sd_if_le X (by decide +kernel : decode cX9_isOver 8 = .ok (.ifCond .le 19, 3)) (by decide) h27 h11
  have h7 : Sd E K 7 q_X9_isOver_7 := sd_iald X (by decide +kernel : decode cX9_isOver 7 = .ok (.iaload, 1)) h8
  have h6 : Sd E K 6 q_X9_isOver_6 := sd_iload_n X (by decide +kernel : decode cX9_isOver 6 = .ok (.iload_n 2, 1)) rfl h7
  have h5 : Sd E K 5 q_X9_isOver_5 := sd_aald X rfl (by decide +kernel : decode cX9_isOver 5 = .ok (.aaload, 1)) h6
  have h4 : Sd E K 4 q_X9_isOver_4 := sd_iload_n X (by decide +kernel : decode cX9_isOver 4 = .ok (.iload_n 1, 1)) rfl h5
  have h1 : Sd E K 1 q_X9_isOver_1 := sd_get X (by decide +kernel : decode cX9_isOver 1 = .ok (.getfield 11, 3)) ok_X9 (Nat.le_of_ble_eq_true rfl) wd_95 h4
  have h0 : Sd E K 0 q_X9_isOver_0 := sd_aload_n X (by decide +kernel : decode cX9_isOver 0 = .ok (.aload_n 0, 1)) rfl h1
  exact h0
set_option maxHeartbeats 4000000 in
set_option maxRecDepth 100000 in
theorem ct_X9_isOver {s0 : State} {D : va_G} {ids : Nat → ClassId} {V : Nat → Nat} {l : Launch} (G : GG s0 D ids V) : CT s0 D ids l yX9_isOver cX9_isOver 4 (some .boolean) rm_X9_isOver Sp_X9_isOver := CT.of (by decide +kernel) G.k (by
  rintro as z f K E ⟨a, i, j, n, M, rfl, hi, hj, hn, hS, hR, hK⟩ X
  refine ⟨Nat.le_of_ble_eq_true rfl, by simp [Value.category], t_X9_isOver G X _ _ _ _ ?_⟩
  obtain ⟨h0, ⟨h1, h2⟩, ⟨h3, h4⟩, -⟩ := hR
  have h2 := h2 i hi
  have h4 := h4 i hi
  have b1 := hS.1 2 i j (by omega)
  have b2 := hS.1 3 i j (by omega)
  simp (disch := omega) only [q_X9_isOver_0, q_X9_isOver_1, q_X9_isOver_4, q_X9_isOver_5, q_X9_isOver_6, q_X9_isOver_7, q_X9_isOver_8, q_X9_isOver_11, q_X9_isOver_12, q_X9_isOver_15, q_X9_isOver_16, q_X9_isOver_17, q_X9_isOver_18, q_X9_isOver_19, q_X9_isOver_20, q_X9_isOver_23, q_X9_isOver_27, q_X9_isOver_28, xpush, xiload, xaload, xlload, xfload, xdload, lkill, xistore, xastore, xfstore, xlstore, xdstore, xiinc, xbin, xdiv, xun, xlbin, xi2l, xi2f, xi2d, xlcmp, xfcmp, xdcmp, xfdiv, xddiv, c1, xdup, xpop, xdup_x1, xdup2, xif, xicmp, xtab, xget, xput, xald, xast, xalen, xnew, xnewa, c1s, recvOk, xcall, xret, xlret, xfret, xdret, xaret, xvret, xs, xnewq, xastq, xcopy, xobj, xmax, xmin, xdead, ls0, List.map_cons, List.map_nil, List.length_cons, List.length_nil, List.replicate, List.append_nil, List.cons_append, List.nil_append, List.getElem?_cons_zero, List.getElem?_cons_succ, List.getElem?_nil, List.set_cons_zero, List.set_cons_succ, List.take_succ_cons, List.take_zero, List.drop_succ_cons, List.drop_zero, List.reverse_cons, List.reverse_nil, List.sum_cons, List.sum_nil, Value.category, Option.toList_some, Option.toList_none, Nat.reduceAdd, Nat.reduceSub, Nat.reduceLT, Nat.reduceLeDiff, Nat.zero_add, Nat.le_refl, true_and, and_true, Nat.sub_zero, Nat.zero_lt_succ, Nat.zero_le, reduceIte, or_true, true_or, or_self, nI_clamp, vp_in_nI, nI_ltI, nI_leI, nI_eq, nI_add, nI_zero9, nI_nlt0, nI_le0, nI_lt0, arG, va_rf, not_false_eq_true, not_true_eq_false, false_implies, true_implies, implies_true, ne_eq, okv_int, okv_z0, okv_z1, okv_zN, okv_ref, okv_arr, okv_null, vn_int, vn_z0, vn_z1, vn_zN, nr_int, nr_z, va_up_self, up_fr, h0, h1, h2, h3, h4, hi, rwM]
  refine ⟨fun q => ?_, fun q => ⟨fun q2 => ?_, fun q2 => ?_⟩⟩
  · rwa [if_neg (by omega)] at hK
  · rwa [if_neg (by omega)] at hK
  · rwa [if_pos (by omega)] at hK)
def Sp_X9_isNoneOrLonger : Spt := fun as z f K => ∃ (a i j n : Nat) (M : Cm), as = [.ref a, .int (nI i), .int (nI j), .int (nI n)] ∧ i < 8 ∧ j < 8 ∧ n < 4194304 ∧ sm M ∧ isRt f a M ∧ K (some (.int (nI (if M 2 i j = 0 ∨ n < M 2 i j then 1 else 0)))) z f
def rm_X9_isNoneOrLonger : Room := { frames := 0, cells := 0, slots := 0, locals := 0 }
def q_X9_isNoneOrLonger_28 : Xf := xret .boolean
def q_X9_isNoneOrLonger_23 : Xf := xpush (.int (nI 1)) q_X9_isNoneOrLonger_28
def q_X9_isNoneOrLonger_27 : Xf := xpush (.int (nI 0)) q_X9_isNoneOrLonger_28
def q_X9_isNoneOrLonger_20 : Xf := xicmp (fun x y => x ≤ y) q_X9_isNoneOrLonger_27 q_X9_isNoneOrLonger_23
def q_X9_isNoneOrLonger_19 : Xf := xiload 3 q_X9_isNoneOrLonger_20
def q_X9_isNoneOrLonger_18 : Xf := xald 1 7 q_X9_isNoneOrLonger_19
def q_X9_isNoneOrLonger_17 : Xf := xiload 2 q_X9_isNoneOrLonger_18
def q_X9_isNoneOrLonger_16 : Xf := xald 4 4 q_X9_isNoneOrLonger_17
def q_X9_isNoneOrLonger_15 : Xf := xiload 1 q_X9_isNoneOrLonger_16
def q_X9_isNoneOrLonger_12 : Xf := xget 8 0 q_X9_isNoneOrLonger_15
def q_X9_isNoneOrLonger_11 : Xf := xaload 0 q_X9_isNoneOrLonger_12
def q_X9_isNoneOrLonger_8 : Xf := xif (fun x => x = 0) q_X9_isNoneOrLonger_23 q_X9_isNoneOrLonger_11
def q_X9_isNoneOrLonger_7 : Xf := xald 1 7 q_X9_isNoneOrLonger_8
def q_X9_isNoneOrLonger_6 : Xf := xiload 2 q_X9_isNoneOrLonger_7
def q_X9_isNoneOrLonger_5 : Xf := xald 4 4 q_X9_isNoneOrLonger_6
def q_X9_isNoneOrLonger_4 : Xf := xiload 1 q_X9_isNoneOrLonger_5
def q_X9_isNoneOrLonger_1 : Xf := xget 8 0 q_X9_isNoneOrLonger_4
def q_X9_isNoneOrLonger_0 : Xf := xaload 0 q_X9_isNoneOrLonger_1
set_option maxRecDepth 100000 in
theorem t_X9_isNoneOrLonger {s0 : State} {D : va_G} {ids : Nat → ClassId} {V : Nat → Nat} {l : Launch} {K : Kr} {E : Ej} (G : GG s0 D ids V) (X : EnX s0 D ids l RX9 cX9_isNoneOrLonger 4 (some .boolean) "isNoneOrLonger" rm_X9_isNoneOrLonger K E) : Sd E K 0 q_X9_isNoneOrLonger_0 := by
  have h28 : Sd E K 28 q_X9_isNoneOrLonger_28 := sd_ret X (by decide +kernel : decode cX9_isNoneOrLonger 28 = .ok (.ireturn, 1))
  have h24 : Sd E K 24 q_X9_isNoneOrLonger_28 := sd_goto X (by decide +kernel : decode cX9_isNoneOrLonger 24 = .ok (.goto 4, 3)) (by decide) h28
  have h23 : Sd E K 23 q_X9_isNoneOrLonger_23 := sd_iconst X (by decide +kernel : decode cX9_isNoneOrLonger 23 = .ok (.iconst 1, 1)) (by decide +kernel) h24
  have h27 : Sd E K 27 q_X9_isNoneOrLonger_27 := sd_iconst X (by decide +kernel : decode cX9_isNoneOrLonger 27 = .ok (.iconst 0, 1)) (by decide +kernel) h28
  have h20 : Sd E K 20 q_X9_isNoneOrLonger_20 := sd_icmp_le X (by decide +kernel : decode cX9_isNoneOrLonger 20 = .ok (.if_icmp .le 7, 3)) (by decide) h27 h23
  have h19 : Sd E K 19 q_X9_isNoneOrLonger_19 := sd_iload_n X (by decide +kernel : decode cX9_isNoneOrLonger 19 = .ok (.iload_n 3, 1)) rfl h20
  have h18 : Sd E K 18 q_X9_isNoneOrLonger_18 := sd_iald X (by decide +kernel : decode cX9_isNoneOrLonger 18 = .ok (.iaload, 1)) h19
  have h17 : Sd E K 17 q_X9_isNoneOrLonger_17 := sd_iload_n X (by decide +kernel : decode cX9_isNoneOrLonger 17 = .ok (.iload_n 2, 1)) rfl h18
  have h16 : Sd E K 16 q_X9_isNoneOrLonger_16 := sd_aald X rfl (by decide +kernel : decode cX9_isNoneOrLonger 16 = .ok (.aaload, 1)) h17
  have h15 : Sd E K 15 q_X9_isNoneOrLonger_15 := sd_iload_n X (by decide +kernel : decode cX9_isNoneOrLonger 15 = .ok (.iload_n 1, 1)) rfl h16
  have h12 : Sd E K 12 q_X9_isNoneOrLonger_12 := sd_get X (by decide +kernel : decode cX9_isNoneOrLonger 12 = .ok (.getfield 11, 3)) ok_X9 (Nat.le_of_ble_eq_true rfl) wd_95 h15
  have h11 : Sd E K 11 q_X9_isNoneOrLonger_11 := sd_aload_n X (by decide +kernel : decode cX9_isNoneOrLonger 11 = .ok (.aload_n 0, 1)) rfl h12
  have h8 : Sd E K 8 q_X9_isNoneOrLonger_8 := sd_if_eq X (by decide +kernel : decode cX9_isNoneOrLonger 8 = .ok (.ifCond .eq 15, 3)) (by decide) h23 h11
  have h7 : Sd E K 7 q_X9_isNoneOrLonger_7 := sd_iald X (by decide +kernel : decode cX9_isNoneOrLonger 7 = .ok (.iaload, 1)) h8
  have h6 : Sd E K 6 q_X9_isNoneOrLonger_6 := sd_iload_n X (by decide +kernel : decode cX9_isNoneOrLonger 6 = .ok (.iload_n 2, 1)) rfl h7
  have h5 : Sd E K 5 q_X9_isNoneOrLonger_5 := sd_aald X rfl (by decide +kernel : decode cX9_isNoneOrLonger 5 = .ok (.aaload, 1)) h6
  have h4 : Sd E K 4 q_X9_isNoneOrLonger_4 := sd_iload_n X (by decide +kernel : decode cX9_isNoneOrLonger 4 = .ok (.iload_n 1, 1)) rfl h5
  have h1 : Sd E K 1 q_X9_isNoneOrLonger_1 := sd_get X (by decide +kernel : decode cX9_isNoneOrLonger 1 = .ok (.getfield 11, 3)) ok_X9 (Nat.le_of_ble_eq_true rfl) wd_95 h4
  have h0 : Sd E K 0 q_X9_isNoneOrLonger_0 := sd_aload_n X (by decide +kernel : decode cX9_isNoneOrLonger 0 = .ok (.aload_n 0, 1)) rfl h1
  exact h0
set_option maxHeartbeats 4000000 in
set_option maxRecDepth 100000 in
theorem ct_X9_isNoneOrLonger {s0 : State} {D : va_G} {ids : Nat → ClassId} {V : Nat → Nat} {l : Launch} (G : GG s0 D ids V) : CT s0 D ids l yX9_isNoneOrLonger cX9_isNoneOrLonger 4 (some .boolean) rm_X9_isNoneOrLonger Sp_X9_isNoneOrLonger := CT.of (by decide +kernel) G.k (by
  rintro as z f K E ⟨a, i, j, n, M, rfl, hi, hj, hn, hS, hR, hK⟩ X
  refine ⟨Nat.le_of_ble_eq_true rfl, by simp [Value.category], t_X9_isNoneOrLonger G X _ _ _ _ ?_⟩
  obtain ⟨h0, ⟨h1, h2⟩, -⟩ := hR
  have h2 := h2 i hi
  have b1 := hS.1 2 i j (by omega)
  simp (disch := omega) only [q_X9_isNoneOrLonger_0, q_X9_isNoneOrLonger_1, q_X9_isNoneOrLonger_4, q_X9_isNoneOrLonger_5, q_X9_isNoneOrLonger_6, q_X9_isNoneOrLonger_7, q_X9_isNoneOrLonger_8, q_X9_isNoneOrLonger_11, q_X9_isNoneOrLonger_12, q_X9_isNoneOrLonger_15, q_X9_isNoneOrLonger_16, q_X9_isNoneOrLonger_17, q_X9_isNoneOrLonger_18, q_X9_isNoneOrLonger_19, q_X9_isNoneOrLonger_20, q_X9_isNoneOrLonger_23, q_X9_isNoneOrLonger_27, q_X9_isNoneOrLonger_28, xpush, xiload, xaload, xlload, xfload, xdload, lkill, xistore, xastore, xfstore, xlstore, xdstore, xiinc, xbin, xdiv, xun, xlbin, xi2l, xi2f, xi2d, xlcmp, xfcmp, xdcmp, xfdiv, xddiv, c1, xdup, xpop, xdup_x1, xdup2, xif, xicmp, xtab, xget, xput, xald, xast, xalen, xnew, xnewa, c1s, recvOk, xcall, xret, xlret, xfret, xdret, xaret, xvret, xs, xnewq, xastq, xcopy, xobj, xmax, xmin, xdead, ls0, List.map_cons, List.map_nil, List.length_cons, List.length_nil, List.replicate, List.append_nil, List.cons_append, List.nil_append, List.getElem?_cons_zero, List.getElem?_cons_succ, List.getElem?_nil, List.set_cons_zero, List.set_cons_succ, List.take_succ_cons, List.take_zero, List.drop_succ_cons, List.drop_zero, List.reverse_cons, List.reverse_nil, List.sum_cons, List.sum_nil, Value.category, Option.toList_some, Option.toList_none, Nat.reduceAdd, Nat.reduceSub, Nat.reduceLT, Nat.reduceLeDiff, Nat.zero_add, Nat.le_refl, true_and, and_true, Nat.sub_zero, Nat.zero_lt_succ, Nat.zero_le, reduceIte, or_true, true_or, or_self, nI_clamp, vp_in_nI, nI_ltI, nI_leI, nI_eq, nI_add, nI_zero9, nI_nlt0, nI_le0, nI_lt0, arG, va_rf, not_false_eq_true, not_true_eq_false, false_implies, true_implies, implies_true, ne_eq, okv_int, okv_z0, okv_z1, okv_zN, okv_ref, okv_arr, okv_null, vn_int, vn_z0, vn_z1, vn_zN, nr_int, nr_z, va_up_self, up_fr, h0, h1, h2, hi, rwM]
  refine ⟨fun q => ?_, fun q => ⟨fun q2 => ?_, fun q2 => ?_⟩⟩
  · rwa [if_pos (by omega)] at hK
  · rwa [if_neg (by omega)] at hK
  · rwa [if_pos (by omega)] at hK)
def Sp_X8_between : Spt := fun as z f K => ∃ (a i j : Nat) (M : Cm), as = [.ref a, .int (nI i), .int (nI j)] ∧ i < 8 ∧ j < 8 ∧ isRd f a M ∧ K (some (.int (nI (M 1 i j)))) z f
def rm_X8_between : Room := { frames := 0, cells := 0, slots := 0, locals := 0 }
def q_X8_between_8 : Xf := xret .int
def q_X8_between_7 : Xf := xald 1 7 q_X8_between_8
def q_X8_between_6 : Xf := xiload 2 q_X8_between_7
def q_X8_between_5 : Xf := xald 4 4 q_X8_between_6
def q_X8_between_4 : Xf := xiload 1 q_X8_between_5
def q_X8_between_1 : Xf := xget 7 0 q_X8_between_4
def q_X8_between_0 : Xf := xaload 0 q_X8_between_1
set_option maxRecDepth 100000 in
theorem t_X8_between {s0 : State} {D : va_G} {ids : Nat → ClassId} {V : Nat → Nat} {l : Launch} {K : Kr} {E : Ej} (G : GG s0 D ids V) (X : EnX s0 D ids l RX8 cX8_between 3 (some .int) "between" rm_X8_between K E) : Sd E K 0 q_X8_between_0 := by
  have h8 : Sd E K 8 q_X8_between_8 := sd_ret X (by decide +kernel : decode cX8_between 8 = .ok (.ireturn, 1))
  have h7 : Sd E K 7 q_X8_between_7 := sd_iald X (by decide +kernel : decode cX8_between 7 = .ok (.iaload, 1)) h8
  have h6 : Sd E K 6 q_X8_between_6 := sd_iload_n X (by decide +kernel : decode cX8_between 6 = .ok (.iload_n 2, 1)) rfl h7
  have h5 : Sd E K 5 q_X8_between_5 := sd_aald X rfl (by decide +kernel : decode cX8_between 5 = .ok (.aaload, 1)) h6
  have h4 : Sd E K 4 q_X8_between_4 := sd_iload_n X (by decide +kernel : decode cX8_between 4 = .ok (.iload_n 1, 1)) rfl h5
  have h1 : Sd E K 1 q_X8_between_1 := sd_get X (by decide +kernel : decode cX8_between 1 = .ok (.getfield 11, 3)) ok_X8 (Nat.le_of_ble_eq_true rfl) wd_77 h4
  have h0 : Sd E K 0 q_X8_between_0 := sd_aload_n X (by decide +kernel : decode cX8_between 0 = .ok (.aload_n 0, 1)) rfl h1
  exact h0
set_option maxHeartbeats 4000000 in
set_option maxRecDepth 100000 in
theorem ct_X8_between {s0 : State} {D : va_G} {ids : Nat → ClassId} {V : Nat → Nat} {l : Launch} (G : GG s0 D ids V) : CT s0 D ids l yX8_between cX8_between 3 (some .int) rm_X8_between Sp_X8_between := CT.of (by decide +kernel) G.k (by
  rintro as z f K E ⟨a, i, j, M, rfl, hi, hj, hR, hK⟩ X
  refine ⟨Nat.le_of_ble_eq_true rfl, by simp [Value.category], t_X8_between G X _ _ _ _ ?_⟩
  obtain ⟨h0, ⟨h1, h2⟩⟩ := hR
  have h2 := h2 i hi
  simp (disch := omega) only [q_X8_between_0, q_X8_between_1, q_X8_between_4, q_X8_between_5, q_X8_between_6, q_X8_between_7, q_X8_between_8, xpush, xiload, xaload, xlload, xfload, xdload, lkill, xistore, xastore, xfstore, xlstore, xdstore, xiinc, xbin, xdiv, xun, xlbin, xi2l, xi2f, xi2d, xlcmp, xfcmp, xdcmp, xfdiv, xddiv, c1, xdup, xpop, xdup_x1, xdup2, xif, xicmp, xtab, xget, xput, xald, xast, xalen, xnew, xnewa, c1s, recvOk, xcall, xret, xlret, xfret, xdret, xaret, xvret, xs, xnewq, xastq, xcopy, xobj, xmax, xmin, xdead, ls0, List.map_cons, List.map_nil, List.length_cons, List.length_nil, List.replicate, List.append_nil, List.cons_append, List.nil_append, List.getElem?_cons_zero, List.getElem?_cons_succ, List.getElem?_nil, List.set_cons_zero, List.set_cons_succ, List.take_succ_cons, List.take_zero, List.drop_succ_cons, List.drop_zero, List.reverse_cons, List.reverse_nil, List.sum_cons, List.sum_nil, Value.category, Option.toList_some, Option.toList_none, Nat.reduceAdd, Nat.reduceSub, Nat.reduceLT, Nat.reduceLeDiff, Nat.zero_add, Nat.le_refl, true_and, and_true, Nat.sub_zero, Nat.zero_lt_succ, Nat.zero_le, reduceIte, or_true, true_or, or_self, nI_clamp, vp_in_nI, nI_ltI, nI_leI, nI_eq, nI_add, nI_zero9, nI_nlt0, nI_le0, nI_lt0, arG, va_rf, not_false_eq_true, not_true_eq_false, false_implies, true_implies, implies_true, ne_eq, okv_int, okv_z0, okv_z1, okv_zN, okv_ref, okv_arr, okv_null, vn_int, vn_z0, vn_z1, vn_zN, nr_int, nr_z, va_up_self, up_fr, h0, h1, h2, hi, rwM]
  exact hK)
def Sp_X8_areJoined : Spt := fun as z f K => ∃ (a i j : Nat) (M : Cm), as = [.ref a, .int (nI i), .int (nI j)] ∧ i < 8 ∧ j < 8 ∧ M 1 i j < 1048576 ∧ isRd f a M ∧ K (some (.int (nI (if 0 < M 1 i j then 1 else 0)))) z f
def rm_X8_areJoined : Room := { frames := 0, cells := 0, slots := 0, locals := 0 }
def q_X8_areJoined_16 : Xf := xret .boolean
def q_X8_areJoined_15 : Xf := xpush (.int (nI 0)) q_X8_areJoined_16
def q_X8_areJoined_11 : Xf := xpush (.int (nI 1)) q_X8_areJoined_16
def q_X8_areJoined_8 : Xf := xif (fun x => x ≤ 0) q_X8_areJoined_15 q_X8_areJoined_11
def q_X8_areJoined_7 : Xf := xald 1 7 q_X8_areJoined_8
def q_X8_areJoined_6 : Xf := xiload 2 q_X8_areJoined_7
def q_X8_areJoined_5 : Xf := xald 4 4 q_X8_areJoined_6
def q_X8_areJoined_4 : Xf := xiload 1 q_X8_areJoined_5
def q_X8_areJoined_1 : Xf := xget 7 0 q_X8_areJoined_4
def q_X8_areJoined_0 : Xf := xaload 0 q_X8_areJoined_1
set_option maxRecDepth 100000 in
theorem t_X8_areJoined {s0 : State} {D : va_G} {ids : Nat → ClassId} {V : Nat → Nat} {l : Launch} {K : Kr} {E : Ej} (G : GG s0 D ids V) (X : EnX s0 D ids l RX8 cX8_areJoined 3 (some .boolean) "areJoined" rm_X8_areJoined K E) : Sd E K 0 q_X8_areJoined_0 := by
  have h16 : Sd E K 16 q_X8_areJoined_16 := sd_ret X (by decide +kernel : decode cX8_areJoined 16 = .ok (.ireturn, 1))
  have h15 : Sd E K 15 q_X8_areJoined_15 := sd_iconst X (by decide +kernel : decode cX8_areJoined 15 = .ok (.iconst 0, 1)) (by decide +kernel) h16
  have h12 : Sd E K 12 q_X8_areJoined_16 := sd_goto X (by decide +kernel : decode cX8_areJoined 12 = .ok (.goto 4, 3)) (by decide) h16
  have h11 : Sd E K 11 q_X8_areJoined_11 := sd_iconst X (by decide +kernel : decode cX8_areJoined 11 = .ok (.iconst 1, 1)) (by decide +kernel) h12
  have h8 : Sd E K 8 q_X8_areJoined_8 := sd_if_le X (by decide +kernel : decode cX8_areJoined 8 = .ok (.ifCond .le 7, 3)) (by decide) h15 h11
  have h7 : Sd E K 7 q_X8_areJoined_7 := sd_iald X (by decide +kernel : decode cX8_areJoined 7 = .ok (.iaload, 1)) h8
  have h6 : Sd E K 6 q_X8_areJoined_6 := sd_iload_n X (by decide +kernel : decode cX8_areJoined 6 = .ok (.iload_n 2, 1)) rfl h7
  have h5 : Sd E K 5 q_X8_areJoined_5 := sd_aald X rfl (by decide +kernel : decode cX8_areJoined 5 = .ok (.aaload, 1)) h6
  have h4 : Sd E K 4 q_X8_areJoined_4 := sd_iload_n X (by decide +kernel : decode cX8_areJoined 4 = .ok (.iload_n 1, 1)) rfl h5
  have h1 : Sd E K 1 q_X8_areJoined_1 := sd_get X (by decide +kernel : decode cX8_areJoined 1 = .ok (.getfield 11, 3)) ok_X8 (Nat.le_of_ble_eq_true rfl) wd_77 h4
  have h0 : Sd E K 0 q_X8_areJoined_0 := sd_aload_n X (by decide +kernel : decode cX8_areJoined 0 = .ok (.aload_n 0, 1)) rfl h1
  exact h0
set_option maxHeartbeats 4000000 in
set_option maxRecDepth 100000 in
theorem ct_X8_areJoined {s0 : State} {D : va_G} {ids : Nat → ClassId} {V : Nat → Nat} {l : Launch} (G : GG s0 D ids V) : CT s0 D ids l yX8_areJoined cX8_areJoined 3 (some .boolean) rm_X8_areJoined Sp_X8_areJoined := CT.of (by decide +kernel) G.k (by
  rintro as z f K E ⟨a, i, j, M, rfl, hi, hj, hM, hR, hK⟩ X
  refine ⟨Nat.le_of_ble_eq_true rfl, by simp [Value.category], t_X8_areJoined G X _ _ _ _ ?_⟩
  obtain ⟨h0, ⟨h1, h2⟩⟩ := hR
  have h2 := h2 i hi
  simp (disch := omega) only [q_X8_areJoined_0, q_X8_areJoined_1, q_X8_areJoined_4, q_X8_areJoined_5, q_X8_areJoined_6, q_X8_areJoined_7, q_X8_areJoined_8, q_X8_areJoined_11, q_X8_areJoined_15, q_X8_areJoined_16, xpush, xiload, xaload, xlload, xfload, xdload, lkill, xistore, xastore, xfstore, xlstore, xdstore, xiinc, xbin, xdiv, xun, xlbin, xi2l, xi2f, xi2d, xlcmp, xfcmp, xdcmp, xfdiv, xddiv, c1, xdup, xpop, xdup_x1, xdup2, xif, xicmp, xtab, xget, xput, xald, xast, xalen, xnew, xnewa, c1s, recvOk, xcall, xret, xlret, xfret, xdret, xaret, xvret, xs, xnewq, xastq, xcopy, xobj, xmax, xmin, xdead, ls0, List.map_cons, List.map_nil, List.length_cons, List.length_nil, List.replicate, List.append_nil, List.cons_append, List.nil_append, List.getElem?_cons_zero, List.getElem?_cons_succ, List.getElem?_nil, List.set_cons_zero, List.set_cons_succ, List.take_succ_cons, List.take_zero, List.drop_succ_cons, List.drop_zero, List.reverse_cons, List.reverse_nil, List.sum_cons, List.sum_nil, Value.category, Option.toList_some, Option.toList_none, Nat.reduceAdd, Nat.reduceSub, Nat.reduceLT, Nat.reduceLeDiff, Nat.zero_add, Nat.le_refl, true_and, and_true, Nat.sub_zero, Nat.zero_lt_succ, Nat.zero_le, reduceIte, or_true, true_or, or_self, nI_clamp, vp_in_nI, nI_ltI, nI_leI, nI_eq, nI_add, nI_zero9, nI_nlt0, nI_le0, nI_lt0, arG, va_rf, not_false_eq_true, not_true_eq_false, false_implies, true_implies, implies_true, ne_eq, okv_int, okv_z0, okv_z1, okv_zN, okv_ref, okv_arr, okv_null, vn_int, vn_z0, vn_z1, vn_zN, nr_int, nr_z, va_up_self, up_fr, h0, h1, h2, hi, rwM]
  refine ⟨fun q => ?_, fun q => ?_⟩
  · rwa [if_neg (by omega)] at hK
  · rwa [if_pos (by omega)] at hK)
def Sp_X9_take : Spt := fun as z f K => ∃ (a i j n d s : Nat) (M : Cm), as = [.ref a, .int (nI i), .int (nI j), .int (nI n), .int (nI d), .int (nI s)] ∧ i < 8 ∧ j < 8 ∧ isRt f a M ∧ ∀ f', isRt f' a (mup (mup (mup (mup M 2 i j d) 3 i j n) 4 i j s) 5 i j 0) → (∀ q, q < a ∨ a + 37 ≤ q → f' q = f q) → K none z f'
def rm_X9_take : Room := { frames := 0, cells := 0, slots := 0, locals := 0 }
def q_X9_take_38 : Xf := xvret
def q_X9_take_37 : Xf := xast 1 q_X9_take_38
def q_X9_take_36 : Xf := xpush (.int (nI 0)) q_X9_take_37
def q_X9_take_35 : Xf := xiload 2 q_X9_take_36
def q_X9_take_34 : Xf := xald 4 4 q_X9_take_35
def q_X9_take_33 : Xf := xiload 1 q_X9_take_34
def q_X9_take_30 : Xf := xget 8 3 q_X9_take_33
def q_X9_take_29 : Xf := xaload 0 q_X9_take_30
def q_X9_take_28 : Xf := xast 1 q_X9_take_29
def q_X9_take_26 : Xf := xiload 5 q_X9_take_28
def q_X9_take_25 : Xf := xiload 2 q_X9_take_26
def q_X9_take_24 : Xf := xald 4 4 q_X9_take_25
def q_X9_take_23 : Xf := xiload 1 q_X9_take_24
def q_X9_take_20 : Xf := xget 8 2 q_X9_take_23
def q_X9_take_19 : Xf := xaload 0 q_X9_take_20
def q_X9_take_18 : Xf := xast 1 q_X9_take_19
def q_X9_take_17 : Xf := xiload 3 q_X9_take_18
def q_X9_take_16 : Xf := xiload 2 q_X9_take_17
def q_X9_take_15 : Xf := xald 4 4 q_X9_take_16
def q_X9_take_14 : Xf := xiload 1 q_X9_take_15
def q_X9_take_11 : Xf := xget 8 1 q_X9_take_14
def q_X9_take_10 : Xf := xaload 0 q_X9_take_11
def q_X9_take_9 : Xf := xast 1 q_X9_take_10
def q_X9_take_7 : Xf := xiload 4 q_X9_take_9
def q_X9_take_6 : Xf := xiload 2 q_X9_take_7
def q_X9_take_5 : Xf := xald 4 4 q_X9_take_6
def q_X9_take_4 : Xf := xiload 1 q_X9_take_5
def q_X9_take_1 : Xf := xget 8 0 q_X9_take_4
def q_X9_take_0 : Xf := xaload 0 q_X9_take_1
set_option maxRecDepth 100000 in
theorem t_X9_take {s0 : State} {D : va_G} {ids : Nat → ClassId} {V : Nat → Nat} {l : Launch} {K : Kr} {E : Ej} (G : GG s0 D ids V) (X : EnX s0 D ids l RX9 cX9_take 6 none "take" rm_X9_take K E) : Sd E K 0 q_X9_take_0 := by
  have h38 : Sd E K 38 q_X9_take_38 := sd_vret X (by decide +kernel : decode cX9_take 38 = .ok (.return_, 1))
  have h37 : Sd E K 37 q_X9_take_37 := sd_iast X (by decide +kernel : decode cX9_take 37 = .ok (.iastore, 1)) h38
  have h36 : Sd E K 36 q_X9_take_36 := sd_iconst X (by decide +kernel : decode cX9_take 36 = .ok (.iconst 0, 1)) (by decide +kernel) h37
  have h35 : Sd E K 35 q_X9_take_35 := sd_iload_n X (by decide +kernel : decode cX9_take 35 = .ok (.iload_n 2, 1)) rfl h36
  have h34 : Sd E K 34 q_X9_take_34 := sd_aald X rfl (by decide +kernel : decode cX9_take 34 = .ok (.aaload, 1)) h35
  have h33 : Sd E K 33 q_X9_take_33 := sd_iload_n X (by decide +kernel : decode cX9_take 33 = .ok (.iload_n 1, 1)) rfl h34
  have h30 : Sd E K 30 q_X9_take_30 := sd_get X (by decide +kernel : decode cX9_take 30 = .ok (.getfield 22, 3)) ok_X9 (Nat.le_of_ble_eq_true rfl) wd_105 h33
  have h29 : Sd E K 29 q_X9_take_29 := sd_aload_n X (by decide +kernel : decode cX9_take 29 = .ok (.aload_n 0, 1)) rfl h30
  have h28 : Sd E K 28 q_X9_take_28 := sd_iast X (by decide +kernel : decode cX9_take 28 = .ok (.iastore, 1)) h29
  have h26 : Sd E K 26 q_X9_take_26 := sd_iload X (by decide +kernel : decode cX9_take 26 = .ok (.iload 5, 2)) h28
  have h25 : Sd E K 25 q_X9_take_25 := sd_iload_n X (by decide +kernel : decode cX9_take 25 = .ok (.iload_n 2, 1)) rfl h26
  have h24 : Sd E K 24 q_X9_take_24 := sd_aald X rfl (by decide +kernel : decode cX9_take 24 = .ok (.aaload, 1)) h25
  have h23 : Sd E K 23 q_X9_take_23 := sd_iload_n X (by decide +kernel : decode cX9_take 23 = .ok (.iload_n 1, 1)) rfl h24
  have h20 : Sd E K 20 q_X9_take_20 := sd_get X (by decide +kernel : decode cX9_take 20 = .ok (.getfield 19, 3)) ok_X9 (Nat.le_of_ble_eq_true rfl) wd_103 h23
  have h19 : Sd E K 19 q_X9_take_19 := sd_aload_n X (by decide +kernel : decode cX9_take 19 = .ok (.aload_n 0, 1)) rfl h20
  have h18 : Sd E K 18 q_X9_take_18 := sd_iast X (by decide +kernel : decode cX9_take 18 = .ok (.iastore, 1)) h19
  have h17 : Sd E K 17 q_X9_take_17 := sd_iload_n X (by decide +kernel : decode cX9_take 17 = .ok (.iload_n 3, 1)) rfl h18
  have h16 : Sd E K 16 q_X9_take_16 := sd_iload_n X (by decide +kernel : decode cX9_take 16 = .ok (.iload_n 2, 1)) rfl h17
  have h15 : Sd E K 15 q_X9_take_15 := sd_aald X rfl (by decide +kernel : decode cX9_take 15 = .ok (.aaload, 1)) h16
  have h14 : Sd E K 14 q_X9_take_14 := sd_iload_n X (by decide +kernel : decode cX9_take 14 = .ok (.iload_n 1, 1)) rfl h15
  have h11 : Sd E K 11 q_X9_take_11 := sd_get X (by decide +kernel : decode cX9_take 11 = .ok (.getfield 16, 3)) ok_X9 (Nat.le_of_ble_eq_true rfl) wd_98 h14
  have h10 : Sd E K 10 q_X9_take_10 := sd_aload_n X (by decide +kernel : decode cX9_take 10 = .ok (.aload_n 0, 1)) rfl h11
  have h9 : Sd E K 9 q_X9_take_9 := sd_iast X (by decide +kernel : decode cX9_take 9 = .ok (.iastore, 1)) h10
  have h7 : Sd E K 7 q_X9_take_7 := sd_iload X (by decide +kernel : decode cX9_take 7 = .ok (.iload 4, 2)) h9
  have h6 : Sd E K 6 q_X9_take_6 := sd_iload_n X (by decide +kernel : decode cX9_take 6 = .ok (.iload_n 2, 1)) rfl h7
  have h5 : Sd E K 5 q_X9_take_5 := sd_aald X rfl (by decide +kernel : decode cX9_take 5 = .ok (.aaload, 1)) h6
  have h4 : Sd E K 4 q_X9_take_4 := sd_iload_n X (by decide +kernel : decode cX9_take 4 = .ok (.iload_n 1, 1)) rfl h5
  have h1 : Sd E K 1 q_X9_take_1 := sd_get X (by decide +kernel : decode cX9_take 1 = .ok (.getfield 11, 3)) ok_X9 (Nat.le_of_ble_eq_true rfl) wd_95 h4
  have h0 : Sd E K 0 q_X9_take_0 := sd_aload_n X (by decide +kernel : decode cX9_take 0 = .ok (.aload_n 0, 1)) rfl h1
  exact h0
set_option maxHeartbeats 4000000 in
set_option maxRecDepth 100000 in
theorem ct_X9_take {s0 : State} {D : va_G} {ids : Nat → ClassId} {V : Nat → Nat} {l : Launch} (G : GG s0 D ids V) : CT s0 D ids l yX9_take cX9_take 6 none rm_X9_take Sp_X9_take := CT.of (by decide +kernel) G.k (by
  rintro as z f K E ⟨a, i, j, n, d, s, M, rfl, hi, hj, hR, hK⟩ X
  refine ⟨Nat.le_of_ble_eq_true rfl, by simp [Value.category], t_X9_take G X _ _ _ _ ?_⟩
  obtain ⟨h0, ⟨h1, h2⟩, ⟨h3, h4⟩, ⟨h5, h6⟩, ⟨h7, h8⟩⟩ := id hR
  have g2 := h2 i hi
  have g4 := h4 i hi
  have g6 := h6 i hi
  have g8 := h8 i hi
  simp (disch := omega) only [q_X9_take_0, q_X9_take_1, q_X9_take_4, q_X9_take_5, q_X9_take_6, q_X9_take_7, q_X9_take_9, q_X9_take_10, q_X9_take_11, q_X9_take_14, q_X9_take_15, q_X9_take_16, q_X9_take_17, q_X9_take_18, q_X9_take_19, q_X9_take_20, q_X9_take_23, q_X9_take_24, q_X9_take_25, q_X9_take_26, q_X9_take_28, q_X9_take_29, q_X9_take_30, q_X9_take_33, q_X9_take_34, q_X9_take_35, q_X9_take_36, q_X9_take_37, q_X9_take_38, xpush, xiload, xaload, xlload, xfload, xdload, lkill, xistore, xastore, xfstore, xlstore, xdstore, xiinc, xbin, xdiv, xun, xlbin, xi2l, xi2f, xi2d, xlcmp, xfcmp, xdcmp, xfdiv, xddiv, c1, xdup, xpop, xdup_x1, xdup2, xif, xicmp, xtab, xget, xput, xald, xast, xalen, xnew, xnewa, c1s, recvOk, xcall, xret, xlret, xfret, xdret, xaret, xvret, xs, xnewq, xastq, xcopy, xobj, xmax, xmin, xdead, ls0, List.map_cons, List.map_nil, List.length_cons, List.length_nil, List.replicate, List.append_nil, List.cons_append, List.nil_append, List.getElem?_cons_zero, List.getElem?_cons_succ, List.getElem?_nil, List.set_cons_zero, List.set_cons_succ, List.take_succ_cons, List.take_zero, List.drop_succ_cons, List.drop_zero, List.reverse_cons, List.reverse_nil, List.sum_cons, List.sum_nil, Value.category, Option.toList_some, Option.toList_none, Nat.reduceAdd, Nat.reduceSub, Nat.reduceLT, Nat.reduceLeDiff, Nat.zero_add, Nat.le_refl, true_and, and_true, Nat.sub_zero, Nat.zero_lt_succ, Nat.zero_le, reduceIte, or_true, true_or, or_self, nI_clamp, vp_in_nI, nI_ltI, nI_leI, nI_eq, nI_add, nI_zero9, nI_nlt0, nI_le0, nI_lt0, arG, va_rf, not_false_eq_true, not_true_eq_false, false_implies, true_implies, implies_true, ne_eq, okv_int, okv_z0, okv_z1, okv_zN, okv_ref, okv_arr, okv_null, vn_int, vn_z0, vn_z1, vn_zN, nr_int, nr_z, va_up_self, up_fr, h0, h1, h3, h5, h7, g2, g4, g6, g8, hi, vn_int]
  refine hK _ ((((hR.set2 hi).set3 hi).set4 hi).set5 hi) (fun q hq => ?_)
  simp (disch := omega) only [up_fr])
def Sp_X9_lose : Spt := fun as z f K => ∃ (a i j : Nat) (M : Cm), as = [.ref a, .int (nI i), .int (nI j)] ∧ i < 8 ∧ j < 8 ∧ isRt f a M ∧ ∀ f', isRt f' a (mup (mup (mup (mup M 2 i j 0) 3 i j 0) 4 i j 0) 5 i j 0) → (∀ q, q < a ∨ a + 37 ≤ q → f' q = f q) → K none z f'
def rm_X9_lose : Room := { frames := 0, cells := 0, slots := 0, locals := 0 }
def q_X9_lose_36 : Xf := xvret
def q_X9_lose_35 : Xf := xast 1 q_X9_lose_36
def q_X9_lose_34 : Xf := xpush (.int (nI 0)) q_X9_lose_35
def q_X9_lose_33 : Xf := xiload 2 q_X9_lose_34
def q_X9_lose_32 : Xf := xald 4 4 q_X9_lose_33
def q_X9_lose_31 : Xf := xiload 1 q_X9_lose_32
def q_X9_lose_28 : Xf := xget 8 3 q_X9_lose_31
def q_X9_lose_27 : Xf := xaload 0 q_X9_lose_28
def q_X9_lose_26 : Xf := xast 1 q_X9_lose_27
def q_X9_lose_25 : Xf := xpush (.int (nI 0)) q_X9_lose_26
def q_X9_lose_24 : Xf := xiload 2 q_X9_lose_25
def q_X9_lose_23 : Xf := xald 4 4 q_X9_lose_24
def q_X9_lose_22 : Xf := xiload 1 q_X9_lose_23
def q_X9_lose_19 : Xf := xget 8 2 q_X9_lose_22
def q_X9_lose_18 : Xf := xaload 0 q_X9_lose_19
def q_X9_lose_17 : Xf := xast 1 q_X9_lose_18
def q_X9_lose_16 : Xf := xpush (.int (nI 0)) q_X9_lose_17
def q_X9_lose_15 : Xf := xiload 2 q_X9_lose_16
def q_X9_lose_14 : Xf := xald 4 4 q_X9_lose_15
def q_X9_lose_13 : Xf := xiload 1 q_X9_lose_14
def q_X9_lose_10 : Xf := xget 8 1 q_X9_lose_13
def q_X9_lose_9 : Xf := xaload 0 q_X9_lose_10
def q_X9_lose_8 : Xf := xast 1 q_X9_lose_9
def q_X9_lose_7 : Xf := xpush (.int (nI 0)) q_X9_lose_8
def q_X9_lose_6 : Xf := xiload 2 q_X9_lose_7
def q_X9_lose_5 : Xf := xald 4 4 q_X9_lose_6
def q_X9_lose_4 : Xf := xiload 1 q_X9_lose_5
def q_X9_lose_1 : Xf := xget 8 0 q_X9_lose_4
def q_X9_lose_0 : Xf := xaload 0 q_X9_lose_1
set_option maxRecDepth 100000 in
theorem t_X9_lose {s0 : State} {D : va_G} {ids : Nat → ClassId} {V : Nat → Nat} {l : Launch} {K : Kr} {E : Ej} (G : GG s0 D ids V) (X : EnX s0 D ids l RX9 cX9_lose 3 none "lose" rm_X9_lose K E) : Sd E K 0 q_X9_lose_0 := by
  have h36 : Sd E K 36 q_X9_lose_36 := sd_vret X (by decide +kernel : decode cX9_lose 36 = .ok (.return_, 1))
  have h35 : Sd E K 35 q_X9_lose_35 := sd_iast X (by decide +kernel : decode cX9_lose 35 = .ok (.iastore, 1)) h36
  have h34 : Sd E K 34 q_X9_lose_34 := sd_iconst X (by decide +kernel : decode cX9_lose 34 = .ok (.iconst 0, 1)) (by decide +kernel) h35
  have h33 : Sd E K 33 q_X9_lose_33 := sd_iload_n X (by decide +kernel : decode cX9_lose 33 = .ok (.iload_n 2, 1)) rfl h34
  have h32 : Sd E K 32 q_X9_lose_32 := sd_aald X rfl (by decide +kernel : decode cX9_lose 32 = .ok (.aaload, 1)) h33
  have h31 : Sd E K 31 q_X9_lose_31 := sd_iload_n X (by decide +kernel : decode cX9_lose 31 = .ok (.iload_n 1, 1)) rfl h32
  have h28 : Sd E K 28 q_X9_lose_28 := sd_get X (by decide +kernel : decode cX9_lose 28 = .ok (.getfield 22, 3)) ok_X9 (Nat.le_of_ble_eq_true rfl) wd_105 h31
  have h27 : Sd E K 27 q_X9_lose_27 := sd_aload_n X (by decide +kernel : decode cX9_lose 27 = .ok (.aload_n 0, 1)) rfl h28
  have h26 : Sd E K 26 q_X9_lose_26 := sd_iast X (by decide +kernel : decode cX9_lose 26 = .ok (.iastore, 1)) h27
  have h25 : Sd E K 25 q_X9_lose_25 := sd_iconst X (by decide +kernel : decode cX9_lose 25 = .ok (.iconst 0, 1)) (by decide +kernel) h26
  have h24 : Sd E K 24 q_X9_lose_24 := sd_iload_n X (by decide +kernel : decode cX9_lose 24 = .ok (.iload_n 2, 1)) rfl h25
  have h23 : Sd E K 23 q_X9_lose_23 := sd_aald X rfl (by decide +kernel : decode cX9_lose 23 = .ok (.aaload, 1)) h24
  have h22 : Sd E K 22 q_X9_lose_22 := sd_iload_n X (by decide +kernel : decode cX9_lose 22 = .ok (.iload_n 1, 1)) rfl h23
  have h19 : Sd E K 19 q_X9_lose_19 := sd_get X (by decide +kernel : decode cX9_lose 19 = .ok (.getfield 19, 3)) ok_X9 (Nat.le_of_ble_eq_true rfl) wd_103 h22
  have h18 : Sd E K 18 q_X9_lose_18 := sd_aload_n X (by decide +kernel : decode cX9_lose 18 = .ok (.aload_n 0, 1)) rfl h19
  have h17 : Sd E K 17 q_X9_lose_17 := sd_iast X (by decide +kernel : decode cX9_lose 17 = .ok (.iastore, 1)) h18
  have h16 : Sd E K 16 q_X9_lose_16 := sd_iconst X (by decide +kernel : decode cX9_lose 16 = .ok (.iconst 0, 1)) (by decide +kernel) h17
  have h15 : Sd E K 15 q_X9_lose_15 := sd_iload_n X (by decide +kernel : decode cX9_lose 15 = .ok (.iload_n 2, 1)) rfl h16
  have h14 : Sd E K 14 q_X9_lose_14 := sd_aald X rfl (by decide +kernel : decode cX9_lose 14 = .ok (.aaload, 1)) h15
  have h13 : Sd E K 13 q_X9_lose_13 := sd_iload_n X (by decide +kernel : decode cX9_lose 13 = .ok (.iload_n 1, 1)) rfl h14
  have h10 : Sd E K 10 q_X9_lose_10 := sd_get X (by decide +kernel : decode cX9_lose 10 = .ok (.getfield 16, 3)) ok_X9 (Nat.le_of_ble_eq_true rfl) wd_98 h13
  have h9 : Sd E K 9 q_X9_lose_9 := sd_aload_n X (by decide +kernel : decode cX9_lose 9 = .ok (.aload_n 0, 1)) rfl h10
  have h8 : Sd E K 8 q_X9_lose_8 := sd_iast X (by decide +kernel : decode cX9_lose 8 = .ok (.iastore, 1)) h9
  have h7 : Sd E K 7 q_X9_lose_7 := sd_iconst X (by decide +kernel : decode cX9_lose 7 = .ok (.iconst 0, 1)) (by decide +kernel) h8
  have h6 : Sd E K 6 q_X9_lose_6 := sd_iload_n X (by decide +kernel : decode cX9_lose 6 = .ok (.iload_n 2, 1)) rfl h7
  have h5 : Sd E K 5 q_X9_lose_5 := sd_aald X rfl (by decide +kernel : decode cX9_lose 5 = .ok (.aaload, 1)) h6
  have h4 : Sd E K 4 q_X9_lose_4 := sd_iload_n X (by decide +kernel : decode cX9_lose 4 = .ok (.iload_n 1, 1)) rfl h5
  have h1 : Sd E K 1 q_X9_lose_1 := sd_get X (by decide +kernel : decode cX9_lose 1 = .ok (.getfield 11, 3)) ok_X9 (Nat.le_of_ble_eq_true rfl) wd_95 h4
  have h0 : Sd E K 0 q_X9_lose_0 := sd_aload_n X (by decide +kernel : decode cX9_lose 0 = .ok (.aload_n 0, 1)) rfl h1
  exact h0
set_option maxHeartbeats 4000000 in
set_option maxRecDepth 100000 in
theorem ct_X9_lose {s0 : State} {D : va_G} {ids : Nat → ClassId} {V : Nat → Nat} {l : Launch} (G : GG s0 D ids V) : CT s0 D ids l yX9_lose cX9_lose 3 none rm_X9_lose Sp_X9_lose := CT.of (by decide +kernel) G.k (by
  rintro as z f K E ⟨a, i, j, M, rfl, hi, hj, hR, hK⟩ X
  refine ⟨Nat.le_of_ble_eq_true rfl, by simp [Value.category], t_X9_lose G X _ _ _ _ ?_⟩
  obtain ⟨h0, ⟨h1, h2⟩, ⟨h3, h4⟩, ⟨h5, h6⟩, ⟨h7, h8⟩⟩ := id hR
  have g2 := h2 i hi
  have g4 := h4 i hi
  have g6 := h6 i hi
  have g8 := h8 i hi
  simp (disch := omega) only [q_X9_lose_0, q_X9_lose_1, q_X9_lose_4, q_X9_lose_5, q_X9_lose_6, q_X9_lose_7, q_X9_lose_8, q_X9_lose_9, q_X9_lose_10, q_X9_lose_13, q_X9_lose_14, q_X9_lose_15, q_X9_lose_16, q_X9_lose_17, q_X9_lose_18, q_X9_lose_19, q_X9_lose_22, q_X9_lose_23, q_X9_lose_24, q_X9_lose_25, q_X9_lose_26, q_X9_lose_27, q_X9_lose_28, q_X9_lose_31, q_X9_lose_32, q_X9_lose_33, q_X9_lose_34, q_X9_lose_35, q_X9_lose_36, xpush, xiload, xaload, xlload, xfload, xdload, lkill, xistore, xastore, xfstore, xlstore, xdstore, xiinc, xbin, xdiv, xun, xlbin, xi2l, xi2f, xi2d, xlcmp, xfcmp, xdcmp, xfdiv, xddiv, c1, xdup, xpop, xdup_x1, xdup2, xif, xicmp, xtab, xget, xput, xald, xast, xalen, xnew, xnewa, c1s, recvOk, xcall, xret, xlret, xfret, xdret, xaret, xvret, xs, xnewq, xastq, xcopy, xobj, xmax, xmin, xdead, ls0, List.map_cons, List.map_nil, List.length_cons, List.length_nil, List.replicate, List.append_nil, List.cons_append, List.nil_append, List.getElem?_cons_zero, List.getElem?_cons_succ, List.getElem?_nil, List.set_cons_zero, List.set_cons_succ, List.take_succ_cons, List.take_zero, List.drop_succ_cons, List.drop_zero, List.reverse_cons, List.reverse_nil, List.sum_cons, List.sum_nil, Value.category, Option.toList_some, Option.toList_none, Nat.reduceAdd, Nat.reduceSub, Nat.reduceLT, Nat.reduceLeDiff, Nat.zero_add, Nat.le_refl, true_and, and_true, Nat.sub_zero, Nat.zero_lt_succ, Nat.zero_le, reduceIte, or_true, true_or, or_self, nI_clamp, vp_in_nI, nI_ltI, nI_leI, nI_eq, nI_add, nI_zero9, nI_nlt0, nI_le0, nI_lt0, arG, va_rf, not_false_eq_true, not_true_eq_false, false_implies, true_implies, implies_true, ne_eq, okv_int, okv_z0, okv_z1, okv_zN, okv_ref, okv_arr, okv_null, vn_int, vn_z0, vn_z1, vn_zN, nr_int, nr_z, va_up_self, up_fr, h0, h1, h3, h5, h7, g2, g4, g6, g8, hi, vn_int]
  refine hK _ ((((hR.set2 hi).set3 hi).set4 hi).set5 hi) (fun q hq => ?_)
  simp (disch := omega) only [up_fr])
