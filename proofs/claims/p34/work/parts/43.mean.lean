/-! the face: two means -/
theorem ddiv_n {x y : Int32} (hy : y ≠ 0) : vf_n64 (FP.ddiv (FP.i2d x) (FP.i2d y)) := by
  have h0 : Jvm.FP.Core.dIsNaN (FP.ddiv (FP.i2d x) (FP.i2d y)) = false := Jvm.FP.Core.ddiv_out (Jvm.FP.Core.i2d_fin x).notNaN (Jvm.FP.Core.i2d_fin y) (fun h => by
    exact Jvm.FP.Core.i2d_ne_zero hy (Jvm.FP.Core.zero_bits2 _ |>.mp h))
  have h1 := (Jvm.FP.Core.ne_nan _).mp ((Jvm.FP.Core.notNaN_iff _).mp h0)
  unfold vf_n64
  rw [UInt64.le_iff_toNat_le, Jvm.FP.Core.mask_toNat]
  exact h1
theorem fdiv_n {x y : Int32} (hy : y ≠ 0) : vf_n32 (FP.fdiv (FP.i2f x) (FP.i2f y)) := by
  have h0 : Jvm.FP.Core.fIsNaN (FP.fdiv (FP.i2f x) (FP.i2f y)) = false := Jvm.FP.Core.fdiv_out (Jvm.FP.Core.i2f_fin x).notNaN (Jvm.FP.Core.i2f_fin y) (fun h => by
    exact Jvm.FP.Core.i2f_ne_zero hy (Jvm.FP.Core.zero_bits232 _ |>.mp h))
  have h1 := (Jvm.FP.Core.ne_nan32 _).mp ((Jvm.FP.Core.notNaN_iff32 _).mp h0)
  unfold vf_n32
  rw [UInt32.le_iff_toNat_le, Jvm.FP.Core.mask_toNat32]
  exact h1
theorem nI_n0 {n : Nat} (h : ¬ n = 0) (hn : n < 1000) : nI n ≠ 0 := fun e => by
  have h1 := nI_toInt (n := n) (by omega)
  rw [e] at h1
  have h2 : (0 : Int32).toInt = 0 := by decide +kernel
  omega
def sumL (M : Cm) : Nat := sumN (fun i => sumN (M 2 i) 8) (M 11 0 2)
def meanN (M : Cm) : UInt64 := if cntR M (M 11 0 2) = 0 then 0 else FP.ddiv (FP.i2d (nI (sumL M))) (FP.i2d (nI (cntR M (M 11 0 2))))
def shareN (M : Cm) : UInt32 := if M 11 0 1 = 0 then 0 else FP.fdiv (FP.i2f (nI (cntN (fun k => M 8 0 k = 1) (M 11 0 1)))) (FP.i2f (nI (M 11 0 1)))
abbrev Sp_X12_comeShare : Spt := fun as z f K => ∃ (b : Nat) (M : Cm), as = [.ref b] ∧ oA f b M ∧ K (some (.float (shareN M))) z f
def rm_X12_comeShare : Room := { frames := 1, cells := 0, slots := 0, locals := 23 }
def q_X12_comeShare_32 (ls : Ls) (st : List Value) (z : Zz) (f : Fm) (E : Ej) (R : Kr) : Prop := xfret ls st z f E R
def q_X12_comeShare_31 (ls : Ls) (st : List Value) (z : Zz) (f : Fm) (E : Ej) (R : Kr) : Prop := xfdiv q_X12_comeShare_32 ls st z f E R
def q_X12_comeShare_30 (ls : Ls) (st : List Value) (z : Zz) (f : Fm) (E : Ej) (R : Kr) : Prop := xi2f q_X12_comeShare_31 ls st z f E R
def q_X12_comeShare_29 (ls : Ls) (st : List Value) (z : Zz) (f : Fm) (E : Ej) (R : Kr) : Prop := xiload 1 q_X12_comeShare_30 ls st z f E R
def q_X12_comeShare_28 (ls : Ls) (st : List Value) (z : Zz) (f : Fm) (E : Ej) (R : Kr) : Prop := xi2f q_X12_comeShare_29 ls st z f E R
def q_X12_comeShare_25 (ls : Ls) (st : List Value) (z : Zz) (f : Fm) (E : Ej) (R : Kr) : Prop := xcall 2 5 Sp_X5_countThatAre 0 0 q_X12_comeShare_28 ls st z f E R
def q_X12_comeShare_24 (ls : Ls) (st : List Value) (z : Zz) (f : Fm) (E : Ej) (R : Kr) : Prop := xpush (.int (nI 1)) q_X12_comeShare_25 ls st z f E R
def q_X12_comeShare_21 (ls : Ls) (st : List Value) (z : Zz) (f : Fm) (E : Ej) (R : Kr) : Prop := xget 1 3 q_X12_comeShare_24 ls st z f E R
def q_X12_comeShare_18 (ls : Ls) (st : List Value) (z : Zz) (f : Fm) (E : Ej) (R : Kr) : Prop := xget 11 1 q_X12_comeShare_21 ls st z f E R
def q_X12_comeShare_17 (ls : Ls) (st : List Value) (z : Zz) (f : Fm) (E : Ej) (R : Kr) : Prop := xaload 0 q_X12_comeShare_18 ls st z f E R
def q_X12_comeShare_16 (ls : Ls) (st : List Value) (z : Zz) (f : Fm) (E : Ej) (R : Kr) : Prop := xfret ls st z f E R
def q_X12_comeShare_15 (ls : Ls) (st : List Value) (z : Zz) (f : Fm) (E : Ej) (R : Kr) : Prop := xpush (.float 0) q_X12_comeShare_16 ls st z f E R
def q_X12_comeShare_12 (ls : Ls) (st : List Value) (z : Zz) (f : Fm) (E : Ej) (R : Kr) : Prop := xif (fun x => ¬ x = 0) q_X12_comeShare_17 q_X12_comeShare_15 ls st z f E R
def q_X12_comeShare_11 (ls : Ls) (st : List Value) (z : Zz) (f : Fm) (E : Ej) (R : Kr) : Prop := xiload 1 q_X12_comeShare_12 ls st z f E R
def q_X12_comeShare_10 (ls : Ls) (st : List Value) (z : Zz) (f : Fm) (E : Ej) (R : Kr) : Prop := xistore 1 q_X12_comeShare_11 ls st z f E R
def q_X12_comeShare_7 (ls : Ls) (st : List Value) (z : Zz) (f : Fm) (E : Ej) (R : Kr) : Prop := xget 4 5 q_X12_comeShare_10 ls st z f E R
def q_X12_comeShare_4 (ls : Ls) (st : List Value) (z : Zz) (f : Fm) (E : Ej) (R : Kr) : Prop := xget 1 3 q_X12_comeShare_7 ls st z f E R
def q_X12_comeShare_1 (ls : Ls) (st : List Value) (z : Zz) (f : Fm) (E : Ej) (R : Kr) : Prop := xget 11 1 q_X12_comeShare_4 ls st z f E R
def q_X12_comeShare_0 (ls : Ls) (st : List Value) (z : Zz) (f : Fm) (E : Ej) (R : Kr) : Prop := xaload 0 q_X12_comeShare_1 ls st z f E R
set_option maxRecDepth 100000 in
theorem t_X12_comeShare {s0 : State} {D : va_G} {ids : Nat → ClassId} {V : Nat → Nat} {l : Launch} {K : Kr} {E : Ej} (G : GG s0 D ids V) (X : EnX s0 D ids l RX12 cX12_comeShare 2 (some .float) "comeShare" rm_X12_comeShare K E) : Sd E K 0 q_X12_comeShare_0 := by
  have h32 : Sd E K 32 q_X12_comeShare_32 := sd_fret X (by decide +kernel : decode cX12_comeShare 32 = .ok (.freturn, 1))
  have h31 : Sd E K 31 q_X12_comeShare_31 := sd_fdiv X (by decide +kernel : decode cX12_comeShare 31 = .ok (.fdiv, 1)) h32
  have h30 : Sd E K 30 q_X12_comeShare_30 := sd_i2f X (by decide +kernel : decode cX12_comeShare 30 = .ok (.i2f, 1)) h31
  have h29 : Sd E K 29 q_X12_comeShare_29 := sd_iload_n X (by decide +kernel : decode cX12_comeShare 29 = .ok (.iload_n 1, 1)) rfl h30
  have h28 : Sd E K 28 q_X12_comeShare_28 := sd_i2f X (by decide +kernel : decode cX12_comeShare 28 = .ok (.i2f, 1)) h29
  have h25 : Sd E K 25 q_X12_comeShare_25 := sd_callV (n := 1) (ci := 4) X (ct_X5_countThatAre G) (by decide +kernel : decode cX12_comeShare 25 = .ok (.invokevirtual 283, 3)) wd_915 wd_912 wd_913 wd_914 wd_29 (by decide +kernel) (Or.inl ⟨by decide, _, _, rfl⟩) ⟨Nat.le_of_ble_eq_true rfl, Nat.le_of_ble_eq_true rfl⟩ h28
  have h24 : Sd E K 24 q_X12_comeShare_24 := sd_iconst X (by decide +kernel : decode cX12_comeShare 24 = .ok (.iconst 1, 1)) (by decide +kernel) h25
  have h21 : Sd E K 21 q_X12_comeShare_21 := sd_get X (by decide +kernel : decode cX12_comeShare 21 = .ok (.getfield 129, 3)) ok_X1 (Nat.le_of_ble_eq_true rfl) wd_160 h24
  have h18 : Sd E K 18 q_X12_comeShare_18 := sd_get X (by decide +kernel : decode cX12_comeShare 18 = .ok (.getfield 20, 3)) ok_X12 (Nat.le_of_ble_eq_true rfl) wd_375 h21
  have h17 : Sd E K 17 q_X12_comeShare_17 := sd_aload_n X (by decide +kernel : decode cX12_comeShare 17 = .ok (.aload_n 0, 1)) rfl h18
  have h16 : Sd E K 16 q_X12_comeShare_16 := sd_fret X (by decide +kernel : decode cX12_comeShare 16 = .ok (.freturn, 1))
  have h15 : Sd E K 15 q_X12_comeShare_15 := sd_fconst0 X (by decide +kernel : decode cX12_comeShare 15 = .ok (.fconst 0, 1)) h16
  have h12 : Sd E K 12 q_X12_comeShare_12 := sd_if_ne X (by decide +kernel : decode cX12_comeShare 12 = .ok (.ifCond .ne 5, 3)) (by decide) h17 h15
  have h11 : Sd E K 11 q_X12_comeShare_11 := sd_iload_n X (by decide +kernel : decode cX12_comeShare 11 = .ok (.iload_n 1, 1)) rfl h12
  have h10 : Sd E K 10 q_X12_comeShare_10 := sd_istore_n X (by decide +kernel : decode cX12_comeShare 10 = .ok (.istore_n 1, 1)) rfl h11
  have h7 : Sd E K 7 q_X12_comeShare_7 := sd_get X (by decide +kernel : decode cX12_comeShare 7 = .ok (.getfield 216, 3)) ok_X5 (Nat.le_of_ble_eq_true rfl) wd_129 h10
  have h4 : Sd E K 4 q_X12_comeShare_4 := sd_get X (by decide +kernel : decode cX12_comeShare 4 = .ok (.getfield 129, 3)) ok_X1 (Nat.le_of_ble_eq_true rfl) wd_160 h7
  have h1 : Sd E K 1 q_X12_comeShare_1 := sd_get X (by decide +kernel : decode cX12_comeShare 1 = .ok (.getfield 20, 3)) ok_X12 (Nat.le_of_ble_eq_true rfl) wd_375 h4
  have h0 : Sd E K 0 q_X12_comeShare_0 := sd_aload_n X (by decide +kernel : decode cX12_comeShare 0 = .ok (.aload_n 0, 1)) rfl h1
  exact h0
set_option maxHeartbeats 4000000 in
set_option maxRecDepth 100000 in
theorem ct_X12_comeShare {s0 : State} {D : va_G} {ids : Nat → ClassId} {V : Nat → Nat} {l : Launch} (G : GG s0 D ids V) : CT s0 D ids l yX12_comeShare cX12_comeShare 2 (some .float) rm_X12_comeShare Sp_X12_comeShare := CT.of (by decide +kernel) G.k (by
  rintro as z f K E ⟨b, M, rfl, ⟨⟨hs, h0, hs2⟩, hC, hE⟩, hK⟩ X
  refine ⟨Nat.le_of_ble_eq_true rfl, by simp [Value.category], t_X12_comeShare G X _ _ _ _ ?_⟩
  have hS := hE.1.1
  have hL := hE.2.2.1
  unfold shareN at hK
  simp (disch := omega) only [q_X12_comeShare_0, q_X12_comeShare_1, q_X12_comeShare_4, q_X12_comeShare_7, q_X12_comeShare_10, q_X12_comeShare_11, q_X12_comeShare_12, q_X12_comeShare_15, q_X12_comeShare_16, q_X12_comeShare_17, q_X12_comeShare_18, q_X12_comeShare_21, q_X12_comeShare_24, q_X12_comeShare_25, q_X12_comeShare_28, q_X12_comeShare_29, q_X12_comeShare_30, q_X12_comeShare_31, q_X12_comeShare_32, xpush, xiload, xaload, xlload, xfload, xdload, lkill, xistore, xastore, xfstore, xlstore, xdstore, xiinc, xbin, xdiv, xun, xlbin, xi2l, xi2f, xi2d, xlcmp, xfcmp, xdcmp, xfdiv, xddiv, c1, xdup, xpop, xdup_x1, xdup2, xif, xicmp, xtab, xtabL, xget, xput, xald, xast, xalen, xnew, xnewa, c1s, recvOk, xcall, kont, xret, xlret, xfret, xdret, xaret, xvret, xs, xnewq, xastq, xcopy, xcopyF, xobj, xmax, xmin, xdead, xpushq, xmna, ls0, List.map_cons, List.map_nil, List.length_cons, List.length_nil, List.replicate, List.append_nil, List.cons_append, List.nil_append, List.getElem?_cons_zero, List.getElem?_cons_succ, List.getElem?_nil, List.set_cons_zero, List.set_cons_succ, List.take_succ_cons, List.take_zero, List.drop_succ_cons, List.drop_zero, List.reverse_cons, List.reverse_nil, List.sum_cons, List.sum_nil, Value.category, Option.toList_some, Option.toList_none, Nat.reduceAdd, Nat.reduceSub, Nat.reduceLT, Nat.reduceLeDiff, Nat.zero_add, Nat.le_refl, true_and, and_true, Nat.sub_zero, Nat.zero_lt_succ, Nat.zero_le, Nat.not_lt_zero, Nat.reduceEqDiff, Nat.one_ne_zero, nI_toInt, Int.reduceEq, Int.reduceAdd, Int.reduceLT, Int.reduceLE, Int.cast_ofNat_Int, reduceIte, or_false, false_or, eq_self, or_true, true_or, or_self, nI_clamp, vp_in_nI, nI_ltI, nI_leI, nI_eq, nI_add, nI_zero9, nI_nlt0, nI_le0, nI_lt0, arG, va_rf, not_false_eq_true, not_true_eq_false, false_implies, true_implies, implies_true, ne_eq, okv_int, okv_z0, okv_z1, okv_zN, okv_ref, okv_arr, okv_null, vn_z0, vn_z1, vn_zN, nr_int, nr_z, va_up_self, up_fr, rw1_j, rw1_up, h0, hC.1, hC.2.2.2.2.1]
  refine ⟨fun q => ?_, fun q => ?_⟩
  · rw [if_neg q] at hK
    refine ⟨_, 1, M, rfl, by omega, hS, hL, hC.2.2.2.2, ?_⟩
    simp (disch := omega) only [q_X12_comeShare_0, q_X12_comeShare_1, q_X12_comeShare_4, q_X12_comeShare_7, q_X12_comeShare_10, q_X12_comeShare_11, q_X12_comeShare_12, q_X12_comeShare_15, q_X12_comeShare_16, q_X12_comeShare_17, q_X12_comeShare_18, q_X12_comeShare_21, q_X12_comeShare_24, q_X12_comeShare_25, q_X12_comeShare_28, q_X12_comeShare_29, q_X12_comeShare_30, q_X12_comeShare_31, q_X12_comeShare_32, xpush, xiload, xaload, xlload, xfload, xdload, lkill, xistore, xastore, xfstore, xlstore, xdstore, xiinc, xbin, xdiv, xun, xlbin, xi2l, xi2f, xi2d, xlcmp, xfcmp, xdcmp, xfdiv, xddiv, c1, xdup, xpop, xdup_x1, xdup2, xif, xicmp, xtab, xtabL, xget, xput, xald, xast, xalen, xnew, xnewa, c1s, recvOk, xcall, kont, xret, xlret, xfret, xdret, xaret, xvret, xs, xnewq, xastq, xcopy, xcopyF, xobj, xmax, xmin, xdead, xpushq, xmna, ls0, List.map_cons, List.map_nil, List.length_cons, List.length_nil, List.replicate, List.append_nil, List.cons_append, List.nil_append, List.getElem?_cons_zero, List.getElem?_cons_succ, List.getElem?_nil, List.set_cons_zero, List.set_cons_succ, List.take_succ_cons, List.take_zero, List.drop_succ_cons, List.drop_zero, List.reverse_cons, List.reverse_nil, List.sum_cons, List.sum_nil, Value.category, Option.toList_some, Option.toList_none, Nat.reduceAdd, Nat.reduceSub, Nat.reduceLT, Nat.reduceLeDiff, Nat.zero_add, Nat.le_refl, true_and, and_true, Nat.sub_zero, Nat.zero_lt_succ, Nat.zero_le, Nat.not_lt_zero, Nat.reduceEqDiff, Nat.one_ne_zero, nI_toInt, Int.reduceEq, Int.reduceAdd, Int.reduceLT, Int.reduceLE, Int.cast_ofNat_Int, reduceIte, or_false, false_or, eq_self, or_true, true_or, or_self, nI_clamp, vp_in_nI, nI_ltI, nI_leI, nI_eq, nI_add, nI_zero9, nI_nlt0, nI_le0, nI_lt0, arG, va_rf, not_false_eq_true, not_true_eq_false, false_implies, true_implies, implies_true, ne_eq, okv_int, okv_z0, okv_z1, okv_zN, okv_ref, okv_arr, okv_null, vn_z0, vn_z1, vn_zN, nr_int, nr_z, va_up_self, up_fr, rw1_j, rw1_up]
    exact ⟨fdiv_n (nI_n0 q (by omega)), hK⟩
  · rw [if_pos (Decidable.not_not.mp q)] at hK
    exact hK)
abbrev Sp_X12_meanLeagues : Spt := fun as z f K => ∃ (b : Nat) (M : Cm), as = [.ref b] ∧ oA f b M ∧ cntR M (M 11 0 2) < 1000 ∧ K (some (.double (meanN M))) z f
def rm_X12_meanLeagues : Room := { frames := 3, cells := 0, slots := 0, locals := 67 }
def q_X12_meanLeagues_54 (ls : Ls) (st : List Value) (z : Zz) (f : Fm) (E : Ej) (R : Kr) : Prop := xdret ls st z f E R
def q_X12_meanLeagues_53 (ls : Ls) (st : List Value) (z : Zz) (f : Fm) (E : Ej) (R : Kr) : Prop := xddiv q_X12_meanLeagues_54 ls st z f E R
def q_X12_meanLeagues_52 (ls : Ls) (st : List Value) (z : Zz) (f : Fm) (E : Ej) (R : Kr) : Prop := xi2d q_X12_meanLeagues_53 ls st z f E R
def q_X12_meanLeagues_51 (ls : Ls) (st : List Value) (z : Zz) (f : Fm) (E : Ej) (R : Kr) : Prop := xiload 1 q_X12_meanLeagues_52 ls st z f E R
def q_X12_meanLeagues_50 (ls : Ls) (st : List Value) (z : Zz) (f : Fm) (E : Ej) (R : Kr) : Prop := xi2d q_X12_meanLeagues_51 ls st z f E R
def q_X12_meanLeagues_49 (ls : Ls) (st : List Value) (z : Zz) (f : Fm) (E : Ej) (R : Kr) : Prop := xiload 2 q_X12_meanLeagues_50 ls st z f E R
def q_X12_meanLeagues_43 (ls : Ls) (st : List Value) (z : Zz) (f : Fm) (E : Ej) (R : Kr) : Prop := xiinc 3 (nI 1) (xs 18) ls st z f E R
def q_X12_meanLeagues_42 (ls : Ls) (st : List Value) (z : Zz) (f : Fm) (E : Ej) (R : Kr) : Prop := xistore 2 q_X12_meanLeagues_43 ls st z f E R
def q_X12_meanLeagues_41 (ls : Ls) (st : List Value) (z : Zz) (f : Fm) (E : Ej) (R : Kr) : Prop := xbin (fun x y => x + y) q_X12_meanLeagues_42 ls st z f E R
def q_X12_meanLeagues_38 (ls : Ls) (st : List Value) (z : Zz) (f : Fm) (E : Ej) (R : Kr) : Prop := xcall 2 9 Sp_X9_sumOfLeagues 0 0 q_X12_meanLeagues_41 ls st z f E R
def q_X12_meanLeagues_37 (ls : Ls) (st : List Value) (z : Zz) (f : Fm) (E : Ej) (R : Kr) : Prop := xiload 3 q_X12_meanLeagues_38 ls st z f E R
def q_X12_meanLeagues_34 (ls : Ls) (st : List Value) (z : Zz) (f : Fm) (E : Ej) (R : Kr) : Prop := xget 1 2 q_X12_meanLeagues_37 ls st z f E R
def q_X12_meanLeagues_31 (ls : Ls) (st : List Value) (z : Zz) (f : Fm) (E : Ej) (R : Kr) : Prop := xget 11 1 q_X12_meanLeagues_34 ls st z f E R
def q_X12_meanLeagues_30 (ls : Ls) (st : List Value) (z : Zz) (f : Fm) (E : Ej) (R : Kr) : Prop := xaload 0 q_X12_meanLeagues_31 ls st z f E R
def q_X12_meanLeagues_29 (ls : Ls) (st : List Value) (z : Zz) (f : Fm) (E : Ej) (R : Kr) : Prop := xiload 2 q_X12_meanLeagues_30 ls st z f E R
def q_X12_meanLeagues_26 (ls : Ls) (st : List Value) (z : Zz) (f : Fm) (E : Ej) (R : Kr) : Prop := xicmp (fun x y => y ≤ x) q_X12_meanLeagues_49 q_X12_meanLeagues_29 ls st z f E R
def q_X12_meanLeagues_23 (ls : Ls) (st : List Value) (z : Zz) (f : Fm) (E : Ej) (R : Kr) : Prop := xget 1 4 q_X12_meanLeagues_26 ls st z f E R
def q_X12_meanLeagues_20 (ls : Ls) (st : List Value) (z : Zz) (f : Fm) (E : Ej) (R : Kr) : Prop := xget 11 1 q_X12_meanLeagues_23 ls st z f E R
def q_X12_meanLeagues_19 (ls : Ls) (st : List Value) (z : Zz) (f : Fm) (E : Ej) (R : Kr) : Prop := xaload 0 q_X12_meanLeagues_20 ls st z f E R
def q_X12_meanLeagues_18 (ls : Ls) (st : List Value) (z : Zz) (f : Fm) (E : Ej) (R : Kr) : Prop := xiload 3 q_X12_meanLeagues_19 ls st z f E R
def q_X12_meanLeagues_17 (ls : Ls) (st : List Value) (z : Zz) (f : Fm) (E : Ej) (R : Kr) : Prop := xistore 3 (xs 18) ls st z f E R
def q_X12_meanLeagues_16 (ls : Ls) (st : List Value) (z : Zz) (f : Fm) (E : Ej) (R : Kr) : Prop := xpush (.int (nI 0)) q_X12_meanLeagues_17 ls st z f E R
def q_X12_meanLeagues_15 (ls : Ls) (st : List Value) (z : Zz) (f : Fm) (E : Ej) (R : Kr) : Prop := xistore 2 q_X12_meanLeagues_16 ls st z f E R
def q_X12_meanLeagues_14 (ls : Ls) (st : List Value) (z : Zz) (f : Fm) (E : Ej) (R : Kr) : Prop := xpush (.int (nI 0)) q_X12_meanLeagues_15 ls st z f E R
def q_X12_meanLeagues_13 (ls : Ls) (st : List Value) (z : Zz) (f : Fm) (E : Ej) (R : Kr) : Prop := xdret ls st z f E R
def q_X12_meanLeagues_12 (ls : Ls) (st : List Value) (z : Zz) (f : Fm) (E : Ej) (R : Kr) : Prop := xpush (.double 0) q_X12_meanLeagues_13 ls st z f E R
def q_X12_meanLeagues_9 (ls : Ls) (st : List Value) (z : Zz) (f : Fm) (E : Ej) (R : Kr) : Prop := xif (fun x => ¬ x = 0) q_X12_meanLeagues_14 q_X12_meanLeagues_12 ls st z f E R
def q_X12_meanLeagues_8 (ls : Ls) (st : List Value) (z : Zz) (f : Fm) (E : Ej) (R : Kr) : Prop := xiload 1 q_X12_meanLeagues_9 ls st z f E R
def q_X12_meanLeagues_7 (ls : Ls) (st : List Value) (z : Zz) (f : Fm) (E : Ej) (R : Kr) : Prop := xistore 1 q_X12_meanLeagues_8 ls st z f E R
def q_X12_meanLeagues_4 (ls : Ls) (st : List Value) (z : Zz) (f : Fm) (E : Ej) (R : Kr) : Prop := xcall 1 2 Sp_X1_countRoutes 0 0 q_X12_meanLeagues_7 ls st z f E R
def q_X12_meanLeagues_1 (ls : Ls) (st : List Value) (z : Zz) (f : Fm) (E : Ej) (R : Kr) : Prop := xget 11 1 q_X12_meanLeagues_4 ls st z f E R
def q_X12_meanLeagues_0 (ls : Ls) (st : List Value) (z : Zz) (f : Fm) (E : Ej) (R : Kr) : Prop := xaload 0 q_X12_meanLeagues_1 ls st z f E R
set_option maxRecDepth 100000 in
theorem t_X12_meanLeagues {s0 : State} {D : va_G} {ids : Nat → ClassId} {V : Nat → Nat} {l : Launch} {K : Kr} {E : Ej} (G : GG s0 D ids V) (X : EnX s0 D ids l RX12 cX12_meanLeagues 4 (some .double) "meanLeagues" rm_X12_meanLeagues K E) : Sd E K 0 q_X12_meanLeagues_0 ∧ Sd E K 18 q_X12_meanLeagues_18 := by
  have h54 : Sd E K 54 q_X12_meanLeagues_54 := sd_dret X (by decide +kernel : decode cX12_meanLeagues 54 = .ok (.dreturn, 1))
  have h53 : Sd E K 53 q_X12_meanLeagues_53 := sd_ddiv X (by decide +kernel : decode cX12_meanLeagues 53 = .ok (.ddiv, 1)) h54
  have h52 : Sd E K 52 q_X12_meanLeagues_52 := sd_i2d X (by decide +kernel : decode cX12_meanLeagues 52 = .ok (.i2d, 1)) h53
  have h51 : Sd E K 51 q_X12_meanLeagues_51 := sd_iload_n X (by decide +kernel : decode cX12_meanLeagues 51 = .ok (.iload_n 1, 1)) rfl h52
  have h50 : Sd E K 50 q_X12_meanLeagues_50 := sd_i2d X (by decide +kernel : decode cX12_meanLeagues 50 = .ok (.i2d, 1)) h51
  have h49 : Sd E K 49 q_X12_meanLeagues_49 := sd_iload_n X (by decide +kernel : decode cX12_meanLeagues 49 = .ok (.iload_n 2, 1)) rfl h50
  have h46 : Sd E K 46 (xs 18) := sd_goto X (by decide +kernel : decode cX12_meanLeagues 46 = .ok (.goto (-28), 3)) (by decide) (sd_s 18)
  have h43 : Sd E K 43 q_X12_meanLeagues_43 := sd_iinc X (by decide +kernel : decode cX12_meanLeagues 43 = .ok (.iinc 3 1, 3)) (by decide +kernel) h46
  have h42 : Sd E K 42 q_X12_meanLeagues_42 := sd_istore_n X (by decide +kernel : decode cX12_meanLeagues 42 = .ok (.istore_n 2, 1)) rfl h43
  have h41 : Sd E K 41 q_X12_meanLeagues_41 := sd_iadd X (by decide +kernel : decode cX12_meanLeagues 41 = .ok (.iadd, 1)) h42
  have h38 : Sd E K 38 q_X12_meanLeagues_38 := sd_callV (n := 1) (ci := 8) X (ct_X9_sumOfLeagues G) (by decide +kernel : decode cX12_meanLeagues 38 = .ok (.invokevirtual 296, 3)) wd_1017 wd_1014 wd_1015 wd_1016 wd_28 (by decide +kernel) (Or.inl ⟨by decide, _, _, rfl⟩) ⟨Nat.le_of_ble_eq_true rfl, Nat.le_of_ble_eq_true rfl⟩ h41
  have h37 : Sd E K 37 q_X12_meanLeagues_37 := sd_iload_n X (by decide +kernel : decode cX12_meanLeagues 37 = .ok (.iload_n 3, 1)) rfl h38
  have h34 : Sd E K 34 q_X12_meanLeagues_34 := sd_get X (by decide +kernel : decode cX12_meanLeagues 34 = .ok (.getfield 116, 3)) ok_X1 (Nat.le_of_ble_eq_true rfl) wd_157 h37
  have h31 : Sd E K 31 q_X12_meanLeagues_31 := sd_get X (by decide +kernel : decode cX12_meanLeagues 31 = .ok (.getfield 20, 3)) ok_X12 (Nat.le_of_ble_eq_true rfl) wd_375 h34
  have h30 : Sd E K 30 q_X12_meanLeagues_30 := sd_aload_n X (by decide +kernel : decode cX12_meanLeagues 30 = .ok (.aload_n 0, 1)) rfl h31
  have h29 : Sd E K 29 q_X12_meanLeagues_29 := sd_iload_n X (by decide +kernel : decode cX12_meanLeagues 29 = .ok (.iload_n 2, 1)) rfl h30
  have h26 : Sd E K 26 q_X12_meanLeagues_26 := sd_icmp_ge X (by decide +kernel : decode cX12_meanLeagues 26 = .ok (.if_icmp .ge 23, 3)) (by decide) h49 h29
  have h23 : Sd E K 23 q_X12_meanLeagues_23 := sd_get X (by decide +kernel : decode cX12_meanLeagues 23 = .ok (.getfield 187, 3)) ok_X1 (Nat.le_of_ble_eq_true rfl) wd_166 h26
  have h20 : Sd E K 20 q_X12_meanLeagues_20 := sd_get X (by decide +kernel : decode cX12_meanLeagues 20 = .ok (.getfield 20, 3)) ok_X12 (Nat.le_of_ble_eq_true rfl) wd_375 h23
  have h19 : Sd E K 19 q_X12_meanLeagues_19 := sd_aload_n X (by decide +kernel : decode cX12_meanLeagues 19 = .ok (.aload_n 0, 1)) rfl h20
  have h18 : Sd E K 18 q_X12_meanLeagues_18 := sd_iload_n X (by decide +kernel : decode cX12_meanLeagues 18 = .ok (.iload_n 3, 1)) rfl h19
  have h17 : Sd E K 17 q_X12_meanLeagues_17 := sd_istore_n X (by decide +kernel : decode cX12_meanLeagues 17 = .ok (.istore_n 3, 1)) rfl (sd_s 18)
  have h16 : Sd E K 16 q_X12_meanLeagues_16 := sd_iconst X (by decide +kernel : decode cX12_meanLeagues 16 = .ok (.iconst 0, 1)) (by decide +kernel) h17
  have h15 : Sd E K 15 q_X12_meanLeagues_15 := sd_istore_n X (by decide +kernel : decode cX12_meanLeagues 15 = .ok (.istore_n 2, 1)) rfl h16
  have h14 : Sd E K 14 q_X12_meanLeagues_14 := sd_iconst X (by decide +kernel : decode cX12_meanLeagues 14 = .ok (.iconst 0, 1)) (by decide +kernel) h15
  have h13 : Sd E K 13 q_X12_meanLeagues_13 := sd_dret X (by decide +kernel : decode cX12_meanLeagues 13 = .ok (.dreturn, 1))
  have h12 : Sd E K 12 q_X12_meanLeagues_12 := sd_dconst0 X (by decide +kernel : decode cX12_meanLeagues 12 = .ok (.dconst 0, 1)) h13
  have h9 : Sd E K 9 q_X12_meanLeagues_9 := sd_if_ne X (by decide +kernel : decode cX12_meanLeagues 9 = .ok (.ifCond .ne 5, 3)) (by decide) h14 h12
  have h8 : Sd E K 8 q_X12_meanLeagues_8 := sd_iload_n X (by decide +kernel : decode cX12_meanLeagues 8 = .ok (.iload_n 1, 1)) rfl h9
  have h7 : Sd E K 7 q_X12_meanLeagues_7 := sd_istore_n X (by decide +kernel : decode cX12_meanLeagues 7 = .ok (.istore_n 1, 1)) rfl h8
  have h4 : Sd E K 4 q_X12_meanLeagues_4 := sd_callV (n := 0) (ci := 1) X (ct_X1_countRoutes G) (by decide +kernel : decode cX12_meanLeagues 4 = .ok (.invokevirtual 274, 3)) wd_906 wd_903 wd_904 wd_905 wd_26 (by decide +kernel) (Or.inl ⟨by decide, _, _, rfl⟩) ⟨Nat.le_of_ble_eq_true rfl, Nat.le_of_ble_eq_true rfl⟩ h7
  have h1 : Sd E K 1 q_X12_meanLeagues_1 := sd_get X (by decide +kernel : decode cX12_meanLeagues 1 = .ok (.getfield 20, 3)) ok_X12 (Nat.le_of_ble_eq_true rfl) wd_375 h4
  have h0 : Sd E K 0 q_X12_meanLeagues_0 := sd_aload_n X (by decide +kernel : decode cX12_meanLeagues 0 = .ok (.aload_n 0, 1)) rfl h1
  exact ⟨h0, h18⟩
set_option maxHeartbeats 4000000 in
set_option maxRecDepth 100000 in
theorem ct_X12_meanLeagues {s0 : State} {D : va_G} {ids : Nat → ClassId} {V : Nat → Nat} {l : Launch} (G : GG s0 D ids V) : CT s0 D ids l yX12_meanLeagues cX12_meanLeagues 4 (some .double) rm_X12_meanLeagues Sp_X12_meanLeagues := CT.of (by decide +kernel) G.k (by
  rintro as z f K E ⟨b, M, rfl, ⟨⟨hs, h0, hs2⟩, hC, hE⟩, hR, hK⟩ X
  obtain ⟨t0, t18⟩ := t_X12_meanLeagues G X
  refine ⟨Nat.le_of_ble_eq_true rfl, by simp [Value.category], t0 _ _ _ _ ?_⟩
  have hS := hE.1.1
  have hF := hE.2.1
  unfold meanN at hK
  simp (disch := omega) only [q_X12_meanLeagues_0, q_X12_meanLeagues_1, q_X12_meanLeagues_4, q_X12_meanLeagues_7, q_X12_meanLeagues_8, q_X12_meanLeagues_9, q_X12_meanLeagues_12, q_X12_meanLeagues_13, q_X12_meanLeagues_14, q_X12_meanLeagues_15, q_X12_meanLeagues_16, q_X12_meanLeagues_17, q_X12_meanLeagues_18, q_X12_meanLeagues_19, q_X12_meanLeagues_20, q_X12_meanLeagues_23, q_X12_meanLeagues_26, q_X12_meanLeagues_29, q_X12_meanLeagues_30, q_X12_meanLeagues_31, q_X12_meanLeagues_34, q_X12_meanLeagues_37, q_X12_meanLeagues_38, q_X12_meanLeagues_41, q_X12_meanLeagues_42, q_X12_meanLeagues_43, q_X12_meanLeagues_49, q_X12_meanLeagues_50, q_X12_meanLeagues_51, q_X12_meanLeagues_52, q_X12_meanLeagues_53, q_X12_meanLeagues_54, xpush, xiload, xaload, xlload, xfload, xdload, lkill, xistore, xastore, xfstore, xlstore, xdstore, xiinc, xbin, xdiv, xun, xlbin, xi2l, xi2f, xi2d, xlcmp, xfcmp, xdcmp, xfdiv, xddiv, c1, xdup, xpop, xdup_x1, xdup2, xif, xicmp, xtab, xtabL, xget, xput, xald, xast, xalen, xnew, xnewa, c1s, recvOk, xcall, kont, xret, xlret, xfret, xdret, xaret, xvret, xs, xnewq, xastq, xcopy, xcopyF, xobj, xmax, xmin, xdead, xpushq, xmna, ls0, List.map_cons, List.map_nil, List.length_cons, List.length_nil, List.replicate, List.append_nil, List.cons_append, List.nil_append, List.getElem?_cons_zero, List.getElem?_cons_succ, List.getElem?_nil, List.set_cons_zero, List.set_cons_succ, List.take_succ_cons, List.take_zero, List.drop_succ_cons, List.drop_zero, List.reverse_cons, List.reverse_nil, List.sum_cons, List.sum_nil, Value.category, Option.toList_some, Option.toList_none, Nat.reduceAdd, Nat.reduceSub, Nat.reduceLT, Nat.reduceLeDiff, Nat.zero_add, Nat.le_refl, true_and, and_true, Nat.sub_zero, Nat.zero_lt_succ, Nat.zero_le, Nat.not_lt_zero, Nat.reduceEqDiff, Nat.one_ne_zero, nI_toInt, Int.reduceEq, Int.reduceAdd, Int.reduceLT, Int.reduceLE, Int.cast_ofNat_Int, reduceIte, or_false, false_or, eq_self, or_true, true_or, or_self, nI_clamp, vp_in_nI, nI_ltI, nI_leI, nI_eq, nI_add, nI_zero9, nI_nlt0, nI_le0, nI_lt0, arG, va_rf, not_false_eq_true, not_true_eq_false, false_implies, true_implies, implies_true, ne_eq, okv_int, okv_z0, okv_z1, okv_zN, okv_ref, okv_arr, okv_null, vn_z0, vn_z1, vn_zN, nr_int, nr_z, va_up_self, up_fr, rw1_j, rw1_up, h0, hC.1]
  refine ⟨_, M, rfl, hS, hF, hC, ?_⟩
  simp (disch := omega) only [q_X12_meanLeagues_0, q_X12_meanLeagues_1, q_X12_meanLeagues_4, q_X12_meanLeagues_7, q_X12_meanLeagues_8, q_X12_meanLeagues_9, q_X12_meanLeagues_12, q_X12_meanLeagues_13, q_X12_meanLeagues_14, q_X12_meanLeagues_15, q_X12_meanLeagues_16, q_X12_meanLeagues_17, q_X12_meanLeagues_18, q_X12_meanLeagues_19, q_X12_meanLeagues_20, q_X12_meanLeagues_23, q_X12_meanLeagues_26, q_X12_meanLeagues_29, q_X12_meanLeagues_30, q_X12_meanLeagues_31, q_X12_meanLeagues_34, q_X12_meanLeagues_37, q_X12_meanLeagues_38, q_X12_meanLeagues_41, q_X12_meanLeagues_42, q_X12_meanLeagues_43, q_X12_meanLeagues_49, q_X12_meanLeagues_50, q_X12_meanLeagues_51, q_X12_meanLeagues_52, q_X12_meanLeagues_53, q_X12_meanLeagues_54, xpush, xiload, xaload, xlload, xfload, xdload, lkill, xistore, xastore, xfstore, xlstore, xdstore, xiinc, xbin, xdiv, xun, xlbin, xi2l, xi2f, xi2d, xlcmp, xfcmp, xdcmp, xfdiv, xddiv, c1, xdup, xpop, xdup_x1, xdup2, xif, xicmp, xtab, xtabL, xget, xput, xald, xast, xalen, xnew, xnewa, c1s, recvOk, xcall, kont, xret, xlret, xfret, xdret, xaret, xvret, xs, xnewq, xastq, xcopy, xcopyF, xobj, xmax, xmin, xdead, xpushq, xmna, ls0, List.map_cons, List.map_nil, List.length_cons, List.length_nil, List.replicate, List.append_nil, List.cons_append, List.nil_append, List.getElem?_cons_zero, List.getElem?_cons_succ, List.getElem?_nil, List.set_cons_zero, List.set_cons_succ, List.take_succ_cons, List.take_zero, List.drop_succ_cons, List.drop_zero, List.reverse_cons, List.reverse_nil, List.sum_cons, List.sum_nil, Value.category, Option.toList_some, Option.toList_none, Nat.reduceAdd, Nat.reduceSub, Nat.reduceLT, Nat.reduceLeDiff, Nat.zero_add, Nat.le_refl, true_and, and_true, Nat.sub_zero, Nat.zero_lt_succ, Nat.zero_le, Nat.not_lt_zero, Nat.reduceEqDiff, Nat.one_ne_zero, nI_toInt, Int.reduceEq, Int.reduceAdd, Int.reduceLT, Int.reduceLE, Int.cast_ofNat_Int, reduceIte, or_false, false_or, eq_self, or_true, true_or, or_self, nI_clamp, vp_in_nI, nI_ltI, nI_leI, nI_eq, nI_add, nI_zero9, nI_nlt0, nI_le0, nI_lt0, arG, va_rf, not_false_eq_true, not_true_eq_false, false_implies, true_implies, implies_true, ne_eq, okv_int, okv_z0, okv_z1, okv_zN, okv_ref, okv_arr, okv_null, vn_z0, vn_z1, vn_zN, nr_int, nr_z, va_up_self, up_fr, rw1_j, rw1_up]
  refine ⟨fun q => ?_, fun q => ?_⟩
  · rw [if_neg q] at hK
    refine dn (N := M 11 0 2) (P := fun i => E 18 [some (.ref b), some (.int (nI (cntR M (M 11 0 2)))), some (.int (nI (sumN (fun i => sumN (M 2 i) 8) i))), some (.int (nI i))] [] (z, 0, 0) f) ?_ ?_ 0 (by omega)
    · refine t18 _ _ _ _ ?_
      simp (disch := omega) only [q_X12_meanLeagues_0, q_X12_meanLeagues_1, q_X12_meanLeagues_4, q_X12_meanLeagues_7, q_X12_meanLeagues_8, q_X12_meanLeagues_9, q_X12_meanLeagues_12, q_X12_meanLeagues_13, q_X12_meanLeagues_14, q_X12_meanLeagues_15, q_X12_meanLeagues_16, q_X12_meanLeagues_17, q_X12_meanLeagues_18, q_X12_meanLeagues_19, q_X12_meanLeagues_20, q_X12_meanLeagues_23, q_X12_meanLeagues_26, q_X12_meanLeagues_29, q_X12_meanLeagues_30, q_X12_meanLeagues_31, q_X12_meanLeagues_34, q_X12_meanLeagues_37, q_X12_meanLeagues_38, q_X12_meanLeagues_41, q_X12_meanLeagues_42, q_X12_meanLeagues_43, q_X12_meanLeagues_49, q_X12_meanLeagues_50, q_X12_meanLeagues_51, q_X12_meanLeagues_52, q_X12_meanLeagues_53, q_X12_meanLeagues_54, xpush, xiload, xaload, xlload, xfload, xdload, lkill, xistore, xastore, xfstore, xlstore, xdstore, xiinc, xbin, xdiv, xun, xlbin, xi2l, xi2f, xi2d, xlcmp, xfcmp, xdcmp, xfdiv, xddiv, c1, xdup, xpop, xdup_x1, xdup2, xif, xicmp, xtab, xtabL, xget, xput, xald, xast, xalen, xnew, xnewa, c1s, recvOk, xcall, kont, xret, xlret, xfret, xdret, xaret, xvret, xs, xnewq, xastq, xcopy, xcopyF, xobj, xmax, xmin, xdead, xpushq, xmna, ls0, List.map_cons, List.map_nil, List.length_cons, List.length_nil, List.replicate, List.append_nil, List.cons_append, List.nil_append, List.getElem?_cons_zero, List.getElem?_cons_succ, List.getElem?_nil, List.set_cons_zero, List.set_cons_succ, List.take_succ_cons, List.take_zero, List.drop_succ_cons, List.drop_zero, List.reverse_cons, List.reverse_nil, List.sum_cons, List.sum_nil, Value.category, Option.toList_some, Option.toList_none, Nat.reduceAdd, Nat.reduceSub, Nat.reduceLT, Nat.reduceLeDiff, Nat.zero_add, Nat.le_refl, true_and, and_true, Nat.sub_zero, Nat.zero_lt_succ, Nat.zero_le, Nat.not_lt_zero, Nat.reduceEqDiff, Nat.one_ne_zero, nI_toInt, Int.reduceEq, Int.reduceAdd, Int.reduceLT, Int.reduceLE, Int.cast_ofNat_Int, reduceIte, or_false, false_or, eq_self, or_true, true_or, or_self, nI_clamp, vp_in_nI, nI_ltI, nI_leI, nI_eq, nI_add, nI_zero9, nI_nlt0, nI_le0, nI_lt0, arG, va_rf, not_false_eq_true, not_true_eq_false, false_implies, true_implies, implies_true, ne_eq, okv_int, okv_z0, okv_z1, okv_zN, okv_ref, okv_arr, okv_null, vn_z0, vn_z1, vn_zN, nr_int, nr_z, va_up_self, up_fr, rw1_j, rw1_up, h0, hC.1]
      exact ⟨ddiv_n (nI_n0 q hR), hK⟩
    · intro i hi ih
      have hi8 : i < 8 := by omega
      refine t18 _ _ _ _ ?_
      simp (disch := omega) only [q_X12_meanLeagues_0, q_X12_meanLeagues_1, q_X12_meanLeagues_4, q_X12_meanLeagues_7, q_X12_meanLeagues_8, q_X12_meanLeagues_9, q_X12_meanLeagues_12, q_X12_meanLeagues_13, q_X12_meanLeagues_14, q_X12_meanLeagues_15, q_X12_meanLeagues_16, q_X12_meanLeagues_17, q_X12_meanLeagues_18, q_X12_meanLeagues_19, q_X12_meanLeagues_20, q_X12_meanLeagues_23, q_X12_meanLeagues_26, q_X12_meanLeagues_29, q_X12_meanLeagues_30, q_X12_meanLeagues_31, q_X12_meanLeagues_34, q_X12_meanLeagues_37, q_X12_meanLeagues_38, q_X12_meanLeagues_41, q_X12_meanLeagues_42, q_X12_meanLeagues_43, q_X12_meanLeagues_49, q_X12_meanLeagues_50, q_X12_meanLeagues_51, q_X12_meanLeagues_52, q_X12_meanLeagues_53, q_X12_meanLeagues_54, xpush, xiload, xaload, xlload, xfload, xdload, lkill, xistore, xastore, xfstore, xlstore, xdstore, xiinc, xbin, xdiv, xun, xlbin, xi2l, xi2f, xi2d, xlcmp, xfcmp, xdcmp, xfdiv, xddiv, c1, xdup, xpop, xdup_x1, xdup2, xif, xicmp, xtab, xtabL, xget, xput, xald, xast, xalen, xnew, xnewa, c1s, recvOk, xcall, kont, xret, xlret, xfret, xdret, xaret, xvret, xs, xnewq, xastq, xcopy, xcopyF, xobj, xmax, xmin, xdead, xpushq, xmna, ls0, List.map_cons, List.map_nil, List.length_cons, List.length_nil, List.replicate, List.append_nil, List.cons_append, List.nil_append, List.getElem?_cons_zero, List.getElem?_cons_succ, List.getElem?_nil, List.set_cons_zero, List.set_cons_succ, List.take_succ_cons, List.take_zero, List.drop_succ_cons, List.drop_zero, List.reverse_cons, List.reverse_nil, List.sum_cons, List.sum_nil, Value.category, Option.toList_some, Option.toList_none, Nat.reduceAdd, Nat.reduceSub, Nat.reduceLT, Nat.reduceLeDiff, Nat.zero_add, Nat.le_refl, true_and, and_true, Nat.sub_zero, Nat.zero_lt_succ, Nat.zero_le, Nat.not_lt_zero, Nat.reduceEqDiff, Nat.one_ne_zero, nI_toInt, Int.reduceEq, Int.reduceAdd, Int.reduceLT, Int.reduceLE, Int.cast_ofNat_Int, reduceIte, or_false, false_or, eq_self, or_true, true_or, or_self, nI_clamp, vp_in_nI, nI_ltI, nI_leI, nI_eq, nI_add, nI_zero9, nI_nlt0, nI_le0, nI_lt0, arG, va_rf, not_false_eq_true, not_true_eq_false, false_implies, true_implies, implies_true, ne_eq, okv_int, okv_z0, okv_z1, okv_zN, okv_ref, okv_arr, okv_null, vn_z0, vn_z1, vn_zN, nr_int, nr_z, va_up_self, up_fr, rw1_j, rw1_up, h0, hC.1, hC.2.2.2.1.1, Nat.not_le.mpr hi]
      refine ⟨_, i, M, rfl, hi8, hC.2.2.2.1, ?_⟩
      simp (disch := omega) only [q_X12_meanLeagues_0, q_X12_meanLeagues_1, q_X12_meanLeagues_4, q_X12_meanLeagues_7, q_X12_meanLeagues_8, q_X12_meanLeagues_9, q_X12_meanLeagues_12, q_X12_meanLeagues_13, q_X12_meanLeagues_14, q_X12_meanLeagues_15, q_X12_meanLeagues_16, q_X12_meanLeagues_17, q_X12_meanLeagues_18, q_X12_meanLeagues_19, q_X12_meanLeagues_20, q_X12_meanLeagues_23, q_X12_meanLeagues_26, q_X12_meanLeagues_29, q_X12_meanLeagues_30, q_X12_meanLeagues_31, q_X12_meanLeagues_34, q_X12_meanLeagues_37, q_X12_meanLeagues_38, q_X12_meanLeagues_41, q_X12_meanLeagues_42, q_X12_meanLeagues_43, q_X12_meanLeagues_49, q_X12_meanLeagues_50, q_X12_meanLeagues_51, q_X12_meanLeagues_52, q_X12_meanLeagues_53, q_X12_meanLeagues_54, xpush, xiload, xaload, xlload, xfload, xdload, lkill, xistore, xastore, xfstore, xlstore, xdstore, xiinc, xbin, xdiv, xun, xlbin, xi2l, xi2f, xi2d, xlcmp, xfcmp, xdcmp, xfdiv, xddiv, c1, xdup, xpop, xdup_x1, xdup2, xif, xicmp, xtab, xtabL, xget, xput, xald, xast, xalen, xnew, xnewa, c1s, recvOk, xcall, kont, xret, xlret, xfret, xdret, xaret, xvret, xs, xnewq, xastq, xcopy, xcopyF, xobj, xmax, xmin, xdead, xpushq, xmna, ls0, List.map_cons, List.map_nil, List.length_cons, List.length_nil, List.replicate, List.append_nil, List.cons_append, List.nil_append, List.getElem?_cons_zero, List.getElem?_cons_succ, List.getElem?_nil, List.set_cons_zero, List.set_cons_succ, List.take_succ_cons, List.take_zero, List.drop_succ_cons, List.drop_zero, List.reverse_cons, List.reverse_nil, List.sum_cons, List.sum_nil, Value.category, Option.toList_some, Option.toList_none, Nat.reduceAdd, Nat.reduceSub, Nat.reduceLT, Nat.reduceLeDiff, Nat.zero_add, Nat.le_refl, true_and, and_true, Nat.sub_zero, Nat.zero_lt_succ, Nat.zero_le, Nat.not_lt_zero, Nat.reduceEqDiff, Nat.one_ne_zero, nI_toInt, Int.reduceEq, Int.reduceAdd, Int.reduceLT, Int.reduceLE, Int.cast_ofNat_Int, reduceIte, or_false, false_or, eq_self, or_true, true_or, or_self, nI_clamp, vp_in_nI, nI_ltI, nI_leI, nI_eq, nI_add, nI_zero9, nI_nlt0, nI_le0, nI_lt0, arG, va_rf, not_false_eq_true, not_true_eq_false, false_implies, true_implies, implies_true, ne_eq, okv_int, okv_z0, okv_z1, okv_zN, okv_ref, okv_arr, okv_null, vn_z0, vn_z1, vn_zN, nr_int, nr_z, va_up_self, up_fr, rw1_j, rw1_up]
      exact ih
  · rw [if_pos (Decidable.not_not.mp q)] at hK
    exact hK)
