/-! Trail -/
def isTr (f : Fm) (a : Nat) (h p : Nat → Nat) (n s l r : Nat) : Prop := f a = some (.inr (9, [.ref (a + 1), .ref (a + 2), .int (nI n), .int (nI s), .int (nI l), .int (nI r)])) ∧ isI f (a + 1) 8 h ∧ isZ f (a + 2) 8 p
theorem isTr.fr {f f' : Fm} {a : Nat} {h p : Nat → Nat} {n s l r : Nat} (hh : isTr f a h p n s l r) (hq : ∀ q, a ≤ q → q < a + 3 → f' q = f q) : isTr f' a h p n s l r := by
  unfold isTr isI isZ
  rw [hq a (by omega) (by omega), hq (a + 1) (by omega) (by omega), hq (a + 2) (by omega) (by omega)]
  exact hh
abbrev Sp_X10_start : Spt := fun as z f K => ∃ (a i : Nat) (h p : Nat → Nat) (n s l r : Nat), as = [.ref a, .int (nI i)] ∧ i < 1048576 ∧ isTr f a h p n s l r ∧ ∀ f', isTr f' a h (fun _ => 0) 0 0 i 0 → (∀ q, q < a ∨ a + 3 ≤ q → f' q = f q) → K none z f'
def rm_X10_start : Room := { frames := 0, cells := 0, slots := 0, locals := 0 }
def q_X10_start_41 (ls : Ls) (st : List Value) (z : Zz) (f : Fm) (E : Ej) (R : Kr) : Prop := xvret ls st z f E R
def q_X10_start_38 (ls : Ls) (st : List Value) (z : Zz) (f : Fm) (E : Ej) (R : Kr) : Prop := xput 9 5 .boolean q_X10_start_41 ls st z f E R
def q_X10_start_37 (ls : Ls) (st : List Value) (z : Zz) (f : Fm) (E : Ej) (R : Kr) : Prop := xpush (.int (nI 0)) q_X10_start_38 ls st z f E R
def q_X10_start_36 (ls : Ls) (st : List Value) (z : Zz) (f : Fm) (E : Ej) (R : Kr) : Prop := xaload 0 q_X10_start_37 ls st z f E R
def q_X10_start_33 (ls : Ls) (st : List Value) (z : Zz) (f : Fm) (E : Ej) (R : Kr) : Prop := xput 9 4 .int q_X10_start_36 ls st z f E R
def q_X10_start_32 (ls : Ls) (st : List Value) (z : Zz) (f : Fm) (E : Ej) (R : Kr) : Prop := xiload 1 q_X10_start_33 ls st z f E R
def q_X10_start_31 (ls : Ls) (st : List Value) (z : Zz) (f : Fm) (E : Ej) (R : Kr) : Prop := xaload 0 q_X10_start_32 ls st z f E R
def q_X10_start_28 (ls : Ls) (st : List Value) (z : Zz) (f : Fm) (E : Ej) (R : Kr) : Prop := xput 9 3 .int q_X10_start_31 ls st z f E R
def q_X10_start_27 (ls : Ls) (st : List Value) (z : Zz) (f : Fm) (E : Ej) (R : Kr) : Prop := xpush (.int (nI 0)) q_X10_start_28 ls st z f E R
def q_X10_start_26 (ls : Ls) (st : List Value) (z : Zz) (f : Fm) (E : Ej) (R : Kr) : Prop := xaload 0 q_X10_start_27 ls st z f E R
def q_X10_start_23 (ls : Ls) (st : List Value) (z : Zz) (f : Fm) (E : Ej) (R : Kr) : Prop := xput 9 2 .int q_X10_start_26 ls st z f E R
def q_X10_start_22 (ls : Ls) (st : List Value) (z : Zz) (f : Fm) (E : Ej) (R : Kr) : Prop := xpush (.int (nI 0)) q_X10_start_23 ls st z f E R
def q_X10_start_21 (ls : Ls) (st : List Value) (z : Zz) (f : Fm) (E : Ej) (R : Kr) : Prop := xaload 0 q_X10_start_22 ls st z f E R
def q_X10_start_15 (ls : Ls) (st : List Value) (z : Zz) (f : Fm) (E : Ej) (R : Kr) : Prop := xiinc 2 (nI 1) (xs 2) ls st z f E R
def q_X10_start_14 (ls : Ls) (st : List Value) (z : Zz) (f : Fm) (E : Ej) (R : Kr) : Prop := xast 2 q_X10_start_15 ls st z f E R
def q_X10_start_13 (ls : Ls) (st : List Value) (z : Zz) (f : Fm) (E : Ej) (R : Kr) : Prop := xpush (.int (nI 0)) q_X10_start_14 ls st z f E R
def q_X10_start_12 (ls : Ls) (st : List Value) (z : Zz) (f : Fm) (E : Ej) (R : Kr) : Prop := xiload 2 q_X10_start_13 ls st z f E R
def q_X10_start_9 (ls : Ls) (st : List Value) (z : Zz) (f : Fm) (E : Ej) (R : Kr) : Prop := xget 9 1 q_X10_start_12 ls st z f E R
def q_X10_start_8 (ls : Ls) (st : List Value) (z : Zz) (f : Fm) (E : Ej) (R : Kr) : Prop := xaload 0 q_X10_start_9 ls st z f E R
def q_X10_start_5 (ls : Ls) (st : List Value) (z : Zz) (f : Fm) (E : Ej) (R : Kr) : Prop := xicmp (fun x y => y ≤ x) q_X10_start_21 q_X10_start_8 ls st z f E R
def q_X10_start_3 (ls : Ls) (st : List Value) (z : Zz) (f : Fm) (E : Ej) (R : Kr) : Prop := xpush (.int (nI 8)) q_X10_start_5 ls st z f E R
def q_X10_start_2 (ls : Ls) (st : List Value) (z : Zz) (f : Fm) (E : Ej) (R : Kr) : Prop := xiload 2 q_X10_start_3 ls st z f E R
def q_X10_start_1 (ls : Ls) (st : List Value) (z : Zz) (f : Fm) (E : Ej) (R : Kr) : Prop := xistore 2 (xs 2) ls st z f E R
def q_X10_start_0 (ls : Ls) (st : List Value) (z : Zz) (f : Fm) (E : Ej) (R : Kr) : Prop := xpush (.int (nI 0)) q_X10_start_1 ls st z f E R
set_option maxRecDepth 100000 in
theorem t_X10_start {s0 : State} {D : va_G} {ids : Nat → ClassId} {V : Nat → Nat} {l : Launch} {K : Kr} {E : Ej} (G : GG s0 D ids V) (X : EnX s0 D ids l RX10 cX10_start 3 none "start" rm_X10_start K E) : Sd E K 0 q_X10_start_0 ∧ Sd E K 2 q_X10_start_2 := by
  have h41 : Sd E K 41 q_X10_start_41 := sd_vret X (by decide +kernel : decode cX10_start 41 = .ok (.return_, 1))
  have h38 : Sd E K 38 q_X10_start_38 := sd_put X (by decide +kernel : decode cX10_start 38 = .ok (.putfield 29, 3)) ok_X10 (Nat.le_of_ble_eq_true rfl) rfl rfl wd_289 h41
  have h37 : Sd E K 37 q_X10_start_37 := sd_iconst X (by decide +kernel : decode cX10_start 37 = .ok (.iconst 0, 1)) (by decide +kernel) h38
  have h36 : Sd E K 36 q_X10_start_36 := sd_aload_n X (by decide +kernel : decode cX10_start 36 = .ok (.aload_n 0, 1)) rfl h37
  have h33 : Sd E K 33 q_X10_start_33 := sd_put X (by decide +kernel : decode cX10_start 33 = .ok (.putfield 26, 3)) ok_X10 (Nat.le_of_ble_eq_true rfl) rfl rfl wd_287 h36
  have h32 : Sd E K 32 q_X10_start_32 := sd_iload_n X (by decide +kernel : decode cX10_start 32 = .ok (.iload_n 1, 1)) rfl h33
  have h31 : Sd E K 31 q_X10_start_31 := sd_aload_n X (by decide +kernel : decode cX10_start 31 = .ok (.aload_n 0, 1)) rfl h32
  have h28 : Sd E K 28 q_X10_start_28 := sd_put X (by decide +kernel : decode cX10_start 28 = .ok (.putfield 23, 3)) ok_X10 (Nat.le_of_ble_eq_true rfl) rfl rfl wd_285 h31
  have h27 : Sd E K 27 q_X10_start_27 := sd_iconst X (by decide +kernel : decode cX10_start 27 = .ok (.iconst 0, 1)) (by decide +kernel) h28
  have h26 : Sd E K 26 q_X10_start_26 := sd_aload_n X (by decide +kernel : decode cX10_start 26 = .ok (.aload_n 0, 1)) rfl h27
  have h23 : Sd E K 23 q_X10_start_23 := sd_put X (by decide +kernel : decode cX10_start 23 = .ok (.putfield 19, 3)) ok_X10 (Nat.le_of_ble_eq_true rfl) rfl rfl wd_283 h26
  have h22 : Sd E K 22 q_X10_start_22 := sd_iconst X (by decide +kernel : decode cX10_start 22 = .ok (.iconst 0, 1)) (by decide +kernel) h23
  have h21 : Sd E K 21 q_X10_start_21 := sd_aload_n X (by decide +kernel : decode cX10_start 21 = .ok (.aload_n 0, 1)) rfl h22
  have h18 : Sd E K 18 (xs 2) := sd_goto X (by decide +kernel : decode cX10_start 18 = .ok (.goto (-16), 3)) (by decide) (sd_s 2)
  have h15 : Sd E K 15 q_X10_start_15 := sd_iinc X (by decide +kernel : decode cX10_start 15 = .ok (.iinc 2 1, 3)) (by decide +kernel) h18
  have h14 : Sd E K 14 q_X10_start_14 := sd_zast X (by decide +kernel : decode cX10_start 14 = .ok (.bastore, 1)) h15
  have h13 : Sd E K 13 q_X10_start_13 := sd_iconst X (by decide +kernel : decode cX10_start 13 = .ok (.iconst 0, 1)) (by decide +kernel) h14
  have h12 : Sd E K 12 q_X10_start_12 := sd_iload_n X (by decide +kernel : decode cX10_start 12 = .ok (.iload_n 2, 1)) rfl h13
  have h9 : Sd E K 9 q_X10_start_9 := sd_get X (by decide +kernel : decode cX10_start 9 = .ok (.getfield 15, 3)) ok_X10 (Nat.le_of_ble_eq_true rfl) wd_282 h12
  have h8 : Sd E K 8 q_X10_start_8 := sd_aload_n X (by decide +kernel : decode cX10_start 8 = .ok (.aload_n 0, 1)) rfl h9
  have h5 : Sd E K 5 q_X10_start_5 := sd_icmp_ge X (by decide +kernel : decode cX10_start 5 = .ok (.if_icmp .ge 16, 3)) (by decide) h21 h8
  have h3 : Sd E K 3 q_X10_start_3 := sd_bipush X (by decide +kernel : decode cX10_start 3 = .ok (.bipush 8, 2)) (by decide +kernel) h5
  have h2 : Sd E K 2 q_X10_start_2 := sd_iload_n X (by decide +kernel : decode cX10_start 2 = .ok (.iload_n 2, 1)) rfl h3
  have h1 : Sd E K 1 q_X10_start_1 := sd_istore_n X (by decide +kernel : decode cX10_start 1 = .ok (.istore_n 2, 1)) rfl (sd_s 2)
  have h0 : Sd E K 0 q_X10_start_0 := sd_iconst X (by decide +kernel : decode cX10_start 0 = .ok (.iconst 0, 1)) (by decide +kernel) h1
  exact ⟨h0, h2⟩
set_option maxHeartbeats 4000000 in
set_option maxRecDepth 100000 in
theorem ct_X10_start {s0 : State} {D : va_G} {ids : Nat → ClassId} {V : Nat → Nat} {l : Launch} (G : GG s0 D ids V) : CT s0 D ids l yX10_start cX10_start 3 none rm_X10_start Sp_X10_start := CT.of (by decide +kernel) G.k (by
  rintro as z f K E ⟨a, i, h, p, n, s, l, r, rfl, hi, hA, hK⟩ X
  obtain ⟨t0, t2⟩ := t_X10_start G X
  refine ⟨Nat.le_of_ble_eq_true rfl, by simp [Value.category], t0 _ _ _ _ ?_⟩
  simp (disch := omega) only [q_X10_start_0, q_X10_start_1, q_X10_start_2, q_X10_start_3, q_X10_start_5, q_X10_start_8, q_X10_start_9, q_X10_start_12, q_X10_start_13, q_X10_start_14, q_X10_start_15, q_X10_start_21, q_X10_start_22, q_X10_start_23, q_X10_start_26, q_X10_start_27, q_X10_start_28, q_X10_start_31, q_X10_start_32, q_X10_start_33, q_X10_start_36, q_X10_start_37, q_X10_start_38, q_X10_start_41, xpush, xiload, xaload, xlload, xfload, xdload, lkill, xistore, xastore, xfstore, xlstore, xdstore, xiinc, xbin, xdiv, xun, xlbin, xi2l, xi2f, xi2d, xlcmp, xfcmp, xdcmp, xfdiv, xddiv, c1, xdup, xpop, xdup_x1, xdup2, xif, xicmp, xtab, xtabL, xget, xput, xald, xast, xalen, xnew, xnewa, c1s, recvOk, xcall, kont, xret, xlret, xfret, xdret, xaret, xvret, xs, xnewq, xastq, xcopy, xcopyF, xobj, xmax, xmin, xdead, ls0, List.map_cons, List.map_nil, List.length_cons, List.length_nil, List.replicate, List.append_nil, List.cons_append, List.nil_append, List.getElem?_cons_zero, List.getElem?_cons_succ, List.getElem?_nil, List.set_cons_zero, List.set_cons_succ, List.take_succ_cons, List.take_zero, List.drop_succ_cons, List.drop_zero, List.reverse_cons, List.reverse_nil, List.sum_cons, List.sum_nil, Value.category, Option.toList_some, Option.toList_none, Nat.reduceAdd, Nat.reduceSub, Nat.reduceLT, Nat.reduceLeDiff, Nat.zero_add, Nat.le_refl, true_and, and_true, Nat.sub_zero, Nat.zero_lt_succ, Nat.zero_le, Nat.not_lt_zero, Nat.reduceEqDiff, Nat.one_ne_zero, nI_toInt, Int.reduceEq, Int.reduceAdd, Int.reduceLT, Int.reduceLE, Int.cast_ofNat_Int, reduceIte, or_false, false_or, eq_self, or_true, true_or, or_self, nI_clamp, vp_in_nI, nI_ltI, nI_leI, nI_eq, nI_add, nI_zero9, nI_nlt0, nI_le0, nI_lt0, arG, va_rf, not_false_eq_true, not_true_eq_false, false_implies, true_implies, implies_true, ne_eq, okv_int, okv_z0, okv_z1, okv_zN, okv_ref, okv_arr, okv_null, vn_z0, vn_z1, vn_zN, nr_int, nr_z, va_up_self, up_fr, rw1_j, rw1_up]
  refine dnR (N := 8) (R := fun k f' => ∃ p', isTr f' a h p' n s l r ∧ (∀ j, j < k → p' j = 0) ∧ ∀ q, q < a ∨ a + 3 ≤ q → f' q = f q) (P := fun k f' => E 2 [some (.ref a), some (.int (nI i)), some (.int (nI k))] [] (z, 0, 0) f') ?_ ?_ 0 (by omega) f ⟨p, hA, fun j hj => by omega, fun q hq => rfl⟩
  · rintro f1 ⟨p', h1, hj, fr1⟩
    refine en_norm X (f' := va_up f1 (a + 2) (some (.inl (2, 8, .inl (rw1 (fun _ => 0)))))) (fun q => ?_) ?_
    · by_cases e2 : q = a + 2
      · subst e2
        exact Or.inr ⟨2, 8, _, _, by omega, h1.2.2, va_up_self _ _ _, fun j h => by show nI (p' j) = nI 0; rw [hj j h]⟩
      · exact Or.inl (up_fr e2)
    refine t2 _ _ _ _ ?_
    simp (disch := omega) only [q_X10_start_0, q_X10_start_1, q_X10_start_2, q_X10_start_3, q_X10_start_5, q_X10_start_8, q_X10_start_9, q_X10_start_12, q_X10_start_13, q_X10_start_14, q_X10_start_15, q_X10_start_21, q_X10_start_22, q_X10_start_23, q_X10_start_26, q_X10_start_27, q_X10_start_28, q_X10_start_31, q_X10_start_32, q_X10_start_33, q_X10_start_36, q_X10_start_37, q_X10_start_38, q_X10_start_41, xpush, xiload, xaload, xlload, xfload, xdload, lkill, xistore, xastore, xfstore, xlstore, xdstore, xiinc, xbin, xdiv, xun, xlbin, xi2l, xi2f, xi2d, xlcmp, xfcmp, xdcmp, xfdiv, xddiv, c1, xdup, xpop, xdup_x1, xdup2, xif, xicmp, xtab, xtabL, xget, xput, xald, xast, xalen, xnew, xnewa, c1s, recvOk, xcall, kont, xret, xlret, xfret, xdret, xaret, xvret, xs, xnewq, xastq, xcopy, xcopyF, xobj, xmax, xmin, xdead, ls0, List.map_cons, List.map_nil, List.length_cons, List.length_nil, List.replicate, List.append_nil, List.cons_append, List.nil_append, List.getElem?_cons_zero, List.getElem?_cons_succ, List.getElem?_nil, List.set_cons_zero, List.set_cons_succ, List.take_succ_cons, List.take_zero, List.drop_succ_cons, List.drop_zero, List.reverse_cons, List.reverse_nil, List.sum_cons, List.sum_nil, Value.category, Option.toList_some, Option.toList_none, Nat.reduceAdd, Nat.reduceSub, Nat.reduceLT, Nat.reduceLeDiff, Nat.zero_add, Nat.le_refl, true_and, and_true, Nat.sub_zero, Nat.zero_lt_succ, Nat.zero_le, Nat.not_lt_zero, Nat.reduceEqDiff, Nat.one_ne_zero, nI_toInt, Int.reduceEq, Int.reduceAdd, Int.reduceLT, Int.reduceLE, Int.cast_ofNat_Int, reduceIte, or_false, false_or, eq_self, or_true, true_or, or_self, nI_clamp, vp_in_nI, nI_ltI, nI_leI, nI_eq, nI_add, nI_zero9, nI_nlt0, nI_le0, nI_lt0, arG, va_rf, not_false_eq_true, not_true_eq_false, false_implies, true_implies, implies_true, ne_eq, okv_int, okv_z0, okv_z1, okv_zN, okv_ref, okv_arr, okv_null, vn_z0, vn_z1, vn_zN, nr_int, nr_z, va_up_self, up_fr, rw1_j, rw1_up, h1.1]
    refine hK _ ⟨va_up_self _ _ _, ?_, ?_⟩ (fun q hq => ?_)
    · unfold isI
      simp (disch := omega) only [up_fr]
      exact h1.2.1
    · unfold isZ
      simp (disch := omega) only [up_fr, va_up_self]
    · simp (disch := omega) only [up_fr]
      exact fr1 q hq
  · rintro k hk ih f1 ⟨p', h1, hj, fr1⟩
    have a2 := h1.2.2
    unfold isZ at a2
    refine t2 _ _ _ _ ?_
    simp (disch := omega) only [q_X10_start_0, q_X10_start_1, q_X10_start_2, q_X10_start_3, q_X10_start_5, q_X10_start_8, q_X10_start_9, q_X10_start_12, q_X10_start_13, q_X10_start_14, q_X10_start_15, q_X10_start_21, q_X10_start_22, q_X10_start_23, q_X10_start_26, q_X10_start_27, q_X10_start_28, q_X10_start_31, q_X10_start_32, q_X10_start_33, q_X10_start_36, q_X10_start_37, q_X10_start_38, q_X10_start_41, xpush, xiload, xaload, xlload, xfload, xdload, lkill, xistore, xastore, xfstore, xlstore, xdstore, xiinc, xbin, xdiv, xun, xlbin, xi2l, xi2f, xi2d, xlcmp, xfcmp, xdcmp, xfdiv, xddiv, c1, xdup, xpop, xdup_x1, xdup2, xif, xicmp, xtab, xtabL, xget, xput, xald, xast, xalen, xnew, xnewa, c1s, recvOk, xcall, kont, xret, xlret, xfret, xdret, xaret, xvret, xs, xnewq, xastq, xcopy, xcopyF, xobj, xmax, xmin, xdead, ls0, List.map_cons, List.map_nil, List.length_cons, List.length_nil, List.replicate, List.append_nil, List.cons_append, List.nil_append, List.getElem?_cons_zero, List.getElem?_cons_succ, List.getElem?_nil, List.set_cons_zero, List.set_cons_succ, List.take_succ_cons, List.take_zero, List.drop_succ_cons, List.drop_zero, List.reverse_cons, List.reverse_nil, List.sum_cons, List.sum_nil, Value.category, Option.toList_some, Option.toList_none, Nat.reduceAdd, Nat.reduceSub, Nat.reduceLT, Nat.reduceLeDiff, Nat.zero_add, Nat.le_refl, true_and, and_true, Nat.sub_zero, Nat.zero_lt_succ, Nat.zero_le, Nat.not_lt_zero, Nat.reduceEqDiff, Nat.one_ne_zero, nI_toInt, Int.reduceEq, Int.reduceAdd, Int.reduceLT, Int.reduceLE, Int.cast_ofNat_Int, reduceIte, or_false, false_or, eq_self, or_true, true_or, or_self, nI_clamp, vp_in_nI, nI_ltI, nI_leI, nI_eq, nI_add, nI_zero9, nI_nlt0, nI_le0, nI_lt0, arG, va_rf, not_false_eq_true, not_true_eq_false, false_implies, true_implies, implies_true, ne_eq, okv_int, okv_z0, okv_z1, okv_zN, okv_ref, okv_arr, okv_null, vn_z0, vn_z1, vn_zN, nr_int, nr_z, va_up_self, up_fr, rw1_j, rw1_up, h1.1, a2, Nat.not_le.mpr hk]
    refine ih _ ⟨hup p' k 0, ⟨(up_fr (by omega)).trans h1.1, (up_fr (by omega)).trans h1.2.1, va_up_self _ _ _⟩, fun j h => ?_, fun q hq => (up_fr (by omega)).trans (fr1 q hq)⟩
    by_cases e1 : j = k
    · subst e1
      exact hup_eq
    · rw [hup_ne e1]
      exact hj j (by omega))
