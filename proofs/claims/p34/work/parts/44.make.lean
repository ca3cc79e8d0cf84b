/-! new objects -/
def cmN : Cm := fun t _ j => if t = 11 ∧ j = 4 then 8 else 0
theorem rw1_z : (fun _ => 0 : Nat → Int32) = rw1 (fun _ => 0) := rfl
theorem isGr.mna {f : Fm} {a : Nat} : isGr (mnaF f a 8 8) a (fun _ _ => 0) := by
  refine ⟨if_pos rfl, fun i hi => ?_⟩
  show (if a + 1 + i = a then _ else if a < a + 1 + i ∧ a + 1 + i ≤ a + 8 then _ else _) = _
  rw [if_neg (by omega), if_pos (by omega)]
  rfl
theorem mna_fr {f : Fm} {z N K q : Nat} (h : q < z) : mnaF f z N K q = f q := by
  unfold mnaF
  rw [if_neg (by omega), if_neg (by omega)]
theorem cmN_z {t : Nat} (h : t ≠ 11) : cmN t = fun _ _ => 0 := by
  funext r j
  exact if_neg (fun e => h e.1)
theorem n1_0 : ¬ (1 : Int32) = nI 0 := by decide +kernel
theorem okv_b0 : okv .byte (.int (nI 0)) := ⟨rfl, rfl⟩
abbrev Sp_J5_init_d00df : Spt := fun as z f K => ∃ (a : Nat), as = [.ref a, .int (nI 16)] ∧ a < z ∧ f a = some (.inr (0, [.null, .int (nI 0), .int (nI 0), .int (nI 0)])) ∧ ∀ f', f' a = some (.inr (0, [.ref z, .int (nI 0), .int (nI 0), .int (nI 0)])) → f' z = some (.inl (0, 16, .inl (rw1 (fun _ => 0)))) → (∀ q, q < z → q ≠ a → f' q = f q) → K none (z + 1) f'
def rm_J5_init_d00df : Room := { frames := 1, cells := 1, slots := 16, locals := 20 }
def q_J5_init_d00df_38 (ls : Ls) (st : List Value) (z : Zz) (f : Fm) (E : Ej) (R : Kr) : Prop := xvret ls st z f E R
def q_J5_init_d00df_19 (ls : Ls) (st : List Value) (z : Zz) (f : Fm) (E : Ej) (R : Kr) : Prop := xput 0 1 .byte q_J5_init_d00df_38 ls st z f E R
def q_J5_init_d00df_18 (ls : Ls) (st : List Value) (z : Zz) (f : Fm) (E : Ej) (R : Kr) : Prop := xpush (.int (nI 0)) q_J5_init_d00df_19 ls st z f E R
def q_J5_init_d00df_17 (ls : Ls) (st : List Value) (z : Zz) (f : Fm) (E : Ej) (R : Kr) : Prop := xaload 0 q_J5_init_d00df_18 ls st z f E R
def q_J5_init_d00df_14 (ls : Ls) (st : List Value) (z : Zz) (f : Fm) (E : Ej) (R : Kr) : Prop := xput 0 0 (.array .byte) q_J5_init_d00df_17 ls st z f E R
def q_J5_init_d00df_12 (ls : Ls) (st : List Value) (z : Zz) (f : Fm) (E : Ej) (R : Kr) : Prop := xnewa 0 q_J5_init_d00df_14 ls st z f E R
def q_J5_init_d00df_11 (ls : Ls) (st : List Value) (z : Zz) (f : Fm) (E : Ej) (R : Kr) : Prop := xiload 1 q_J5_init_d00df_12 ls st z f E R
def q_J5_init_d00df_10 (ls : Ls) (st : List Value) (z : Zz) (f : Fm) (E : Ej) (R : Kr) : Prop := xaload 0 q_J5_init_d00df_11 ls st z f E R
def q_J5_init_d00df_7 (ls : Ls) (st : List Value) (z : Zz) (f : Fm) (E : Ej) (R : Kr) : Prop := xif (fun x => x = 0) (xdead) q_J5_init_d00df_10 ls st z f E R
def q_J5_init_d00df_4 (ls : Ls) (st : List Value) (z : Zz) (f : Fm) (E : Ej) (R : Kr) : Prop := xpush (.int 1) q_J5_init_d00df_7 ls st z f E R
def q_J5_init_d00df_1 (ls : Ls) (st : List Value) (z : Zz) (f : Fm) (E : Ej) (R : Kr) : Prop := xobj q_J5_init_d00df_4 ls st z f E R
def q_J5_init_d00df_0 (ls : Ls) (st : List Value) (z : Zz) (f : Fm) (E : Ej) (R : Kr) : Prop := xaload 0 q_J5_init_d00df_1 ls st z f E R
set_option maxRecDepth 100000 in
theorem t_J5_init_d00df {s0 : State} {D : va_G} {ids : Nat → ClassId} {V : Nat → Nat} {l : Launch} {K : Kr} {E : Ej} (G : GG s0 D ids V) (X : EnX s0 D ids l RJ5 cJ5_init_d00df 2 none "<init>" rm_J5_init_d00df K E) : Sd E K 0 q_J5_init_d00df_0 := by
  have h38 : Sd E K 38 q_J5_init_d00df_38 := sd_vret X (by decide +kernel : decode cJ5_init_d00df 38 = .ok (.return_, 1))
  have h22 : Sd E K 22 q_J5_init_d00df_38 := sd_goto X (by decide +kernel : decode cJ5_init_d00df 22 = .ok (.goto 16, 3)) (by decide) h38
  have h19 : Sd E K 19 q_J5_init_d00df_19 := sd_put X (by decide +kernel : decode cJ5_init_d00df 19 = .ok (.putfield 22, 3)) ok_J4 (Nat.le_of_ble_eq_true rfl) rfl rfl wd_329 h22
  have h18 : Sd E K 18 q_J5_init_d00df_18 := sd_iconst X (by decide +kernel : decode cJ5_init_d00df 18 = .ok (.iconst 0, 1)) (by decide +kernel) h19
  have h17 : Sd E K 17 q_J5_init_d00df_17 := sd_aload_n X (by decide +kernel : decode cJ5_init_d00df 17 = .ok (.aload_n 0, 1)) rfl h18
  have h14 : Sd E K 14 q_J5_init_d00df_14 := sd_put X (by decide +kernel : decode cJ5_init_d00df 14 = .ok (.putfield 15, 3)) ok_J4 (Nat.le_of_ble_eq_true rfl) rfl rfl wd_328 h17
  have h12 : Sd E K 12 q_J5_init_d00df_12 := sd_newa X (Nat.le_of_ble_eq_true rfl) rfl rfl (by decide) (by decide +kernel : decode cJ5_init_d00df 12 = .ok (.newarray .byte, 2)) wd_341 (G.nm0) h14
  have h11 : Sd E K 11 q_J5_init_d00df_11 := sd_iload_n X (by decide +kernel : decode cJ5_init_d00df 11 = .ok (.iload_n 1, 1)) rfl h12
  have h10 : Sd E K 10 q_J5_init_d00df_10 := sd_aload_n X (by decide +kernel : decode cJ5_init_d00df 10 = .ok (.aload_n 0, 1)) rfl h11
  have h7 : Sd E K 7 q_J5_init_d00df_7 := sd_if_eq X (by decide +kernel : decode cJ5_init_d00df 7 = .ok (.ifCond .eq 18, 3)) (by decide) (sd_dead 25) h10
  have h4 : Sd E K 4 q_J5_init_d00df_4 := sd_gst X G.z0 (by decide +kernel : decode cJ5_init_d00df 4 = .ok (.getstatic 18, 3)) wd_319 h7
  have h1 : Sd E K 1 q_J5_init_d00df_1 := sd_obj X (by decide +kernel : decode cJ5_init_d00df 1 = .ok (.invokespecial 3, 3)) wd_318 (Nat.le_of_ble_eq_true rfl) (Nat.le_of_ble_eq_true rfl) h4
  have h0 : Sd E K 0 q_J5_init_d00df_0 := sd_aload_n X (by decide +kernel : decode cJ5_init_d00df 0 = .ok (.aload_n 0, 1)) rfl h1
  exact h0
set_option maxHeartbeats 4000000 in
set_option maxRecDepth 100000 in
theorem ct_J5_init_d00df {s0 : State} {D : va_G} {ids : Nat → ClassId} {V : Nat → Nat} {l : Launch} (G : GG s0 D ids V) : CT s0 D ids l yJ5_init_d00df cJ5_init_d00df 2 none rm_J5_init_d00df Sp_J5_init_d00df := CT.of (by decide +kernel) G.k (by
  rintro as z f K E ⟨a, rfl, hz, h1, hK⟩ X
  refine ⟨Nat.le_of_ble_eq_true rfl, by simp [Value.category], t_J5_init_d00df G X _ _ _ _ ?_⟩
  simp (disch := omega) only [q_J5_init_d00df_0, q_J5_init_d00df_1, q_J5_init_d00df_4, q_J5_init_d00df_7, q_J5_init_d00df_10, q_J5_init_d00df_11, q_J5_init_d00df_12, q_J5_init_d00df_14, q_J5_init_d00df_17, q_J5_init_d00df_18, q_J5_init_d00df_19, q_J5_init_d00df_38, xpush, xiload, xaload, xlload, xfload, xdload, lkill, xistore, xastore, xfstore, xlstore, xdstore, xiinc, xbin, xdiv, xun, xlbin, xi2l, xi2f, xi2d, xlcmp, xfcmp, xdcmp, xfdiv, xddiv, c1, xdup, xpop, xdup_x1, xdup2, xif, xicmp, xtab, xtabL, xget, xput, xald, xast, xalen, xnew, xnewa, c1s, recvOk, xcall, kont, xret, xlret, xfret, xdret, xaret, xvret, xs, xnewq, xastq, xcopy, xcopyF, xobj, xmax, xmin, xdead, xpushq, xmna, ls0, List.map_cons, List.map_nil, List.length_cons, List.length_nil, List.replicate, List.append_nil, List.cons_append, List.nil_append, List.getElem?_cons_zero, List.getElem?_cons_succ, List.getElem?_nil, List.set_cons_zero, List.set_cons_succ, List.take_succ_cons, List.take_zero, List.drop_succ_cons, List.drop_zero, List.reverse_cons, List.reverse_nil, List.sum_cons, List.sum_nil, Value.category, Option.toList_some, Option.toList_none, Nat.reduceAdd, Nat.reduceSub, Nat.reduceLT, Nat.reduceLeDiff, Nat.zero_add, Nat.le_refl, true_and, and_true, Nat.sub_zero, Nat.zero_lt_succ, Nat.zero_le, Nat.not_lt_zero, Nat.reduceEqDiff, Nat.one_ne_zero, nI_toInt, Int.reduceEq, Int.reduceAdd, Int.reduceLT, Int.reduceLE, Int.cast_ofNat_Int, reduceIte, or_false, false_or, eq_self, or_true, true_or, or_self, nI_clamp, vp_in_nI, nI_ltI, nI_leI, nI_eq, nI_add, nI_zero9, nI_nlt0, nI_le0, nI_lt0, arG, va_rf, not_false_eq_true, not_true_eq_false, false_implies, true_implies, implies_true, ne_eq, okv_int, okv_z0, okv_z1, okv_zN, okv_ref, okv_arr, okv_null, vn_z0, vn_z1, vn_zN, nr_int, nr_z, va_up_self, up_fr, rw1_j, rw1_up, h1]
  refine ⟨fun e => absurd e n1_0, fun _ => ⟨Nat.le_of_ble_eq_true rfl, Nat.le_of_ble_eq_true rfl, okv_b0, ?_⟩⟩
  exact hK _ (va_up_self _ _ _) (by rw [up_fr (by omega), up_fr (by omega), va_up_self]; rfl) (fun q h1 h2 => by rw [up_fr h2, up_fr h2, up_fr (by omega)]))
abbrev Sp_J4_init_da8c8 : Spt := fun as z f K => ∃ (a : Nat), as = [.ref a] ∧ a < z ∧ f a = some (.inr (0, [.null, .int (nI 0), .int (nI 0), .int (nI 0)])) ∧ ∀ f', f' a = some (.inr (0, [.ref z, .int (nI 0), .int (nI 0), .int (nI 0)])) → f' z = some (.inl (0, 16, .inl (rw1 (fun _ => 0)))) → (∀ q, q < z → q ≠ a → f' q = f q) → K none (z + 1) f'
def rm_J4_init_da8c8 : Room := { frames := 2, cells := 1, slots := 16, locals := 41 }
def q_J4_init_da8c8_6 (ls : Ls) (st : List Value) (z : Zz) (f : Fm) (E : Ej) (R : Kr) : Prop := xvret ls st z f E R
def q_J4_init_da8c8_3 (ls : Ls) (st : List Value) (z : Zz) (f : Fm) (E : Ej) (R : Kr) : Prop := xcall 2 1 Sp_J5_init_d00df 1 16 q_J4_init_da8c8_6 ls st z f E R
def q_J4_init_da8c8_1 (ls : Ls) (st : List Value) (z : Zz) (f : Fm) (E : Ej) (R : Kr) : Prop := xpush (.int (nI 16)) q_J4_init_da8c8_3 ls st z f E R
def q_J4_init_da8c8_0 (ls : Ls) (st : List Value) (z : Zz) (f : Fm) (E : Ej) (R : Kr) : Prop := xaload 0 q_J4_init_da8c8_1 ls st z f E R
set_option maxRecDepth 100000 in
theorem t_J4_init_da8c8 {s0 : State} {D : va_G} {ids : Nat → ClassId} {V : Nat → Nat} {l : Launch} {K : Kr} {E : Ej} (G : GG s0 D ids V) (X : EnX s0 D ids l RJ4 cJ4_init_da8c8 1 none "<init>" rm_J4_init_da8c8 K E) : Sd E K 0 q_J4_init_da8c8_0 := by
  have h6 : Sd E K 6 q_J4_init_da8c8_6 := sd_vret X (by decide +kernel : decode cJ4_init_da8c8 6 = .ok (.return_, 1))
  have h3 : Sd E K 3 q_J4_init_da8c8_3 := sd_callI (n := 1) (ci := 0) X (ct_J5_init_d00df G) (by decide +kernel : decode cJ4_init_da8c8 3 = .ok (.invokespecial 1, 3)) wd_317 wd_315 wd_316 wd_35 rfl (by decide +kernel) ⟨Nat.le_of_ble_eq_true rfl, Nat.le_of_ble_eq_true rfl⟩ h6
  have h1 : Sd E K 1 q_J4_init_da8c8_1 := sd_bipush X (by decide +kernel : decode cJ4_init_da8c8 1 = .ok (.bipush 16, 2)) (by decide +kernel) h3
  have h0 : Sd E K 0 q_J4_init_da8c8_0 := sd_aload_n X (by decide +kernel : decode cJ4_init_da8c8 0 = .ok (.aload_n 0, 1)) rfl h1
  exact h0
set_option maxHeartbeats 4000000 in
set_option maxRecDepth 100000 in
theorem ct_J4_init_da8c8 {s0 : State} {D : va_G} {ids : Nat → ClassId} {V : Nat → Nat} {l : Launch} (G : GG s0 D ids V) : CT s0 D ids l yJ4_init_da8c8 cJ4_init_da8c8 1 none rm_J4_init_da8c8 Sp_J4_init_da8c8 := CT.of (by decide +kernel) G.k (by
  rintro as z f K E ⟨a, rfl, hz, h1, hK⟩ X
  refine ⟨Nat.le_of_ble_eq_true rfl, by simp [Value.category], t_J4_init_da8c8 G X _ _ _ _ ?_⟩
  simp (disch := omega) only [q_J4_init_da8c8_0, q_J4_init_da8c8_1, q_J4_init_da8c8_3, q_J4_init_da8c8_6, xpush, xiload, xaload, xlload, xfload, xdload, lkill, xistore, xastore, xfstore, xlstore, xdstore, xiinc, xbin, xdiv, xun, xlbin, xi2l, xi2f, xi2d, xlcmp, xfcmp, xdcmp, xfdiv, xddiv, c1, xdup, xpop, xdup_x1, xdup2, xif, xicmp, xtab, xtabL, xget, xput, xald, xast, xalen, xnew, xnewa, c1s, recvOk, xcall, kont, xret, xlret, xfret, xdret, xaret, xvret, xs, xnewq, xastq, xcopy, xcopyF, xobj, xmax, xmin, xdead, xpushq, xmna, ls0, List.map_cons, List.map_nil, List.length_cons, List.length_nil, List.replicate, List.append_nil, List.cons_append, List.nil_append, List.getElem?_cons_zero, List.getElem?_cons_succ, List.getElem?_nil, List.set_cons_zero, List.set_cons_succ, List.take_succ_cons, List.take_zero, List.drop_succ_cons, List.drop_zero, List.reverse_cons, List.reverse_nil, List.sum_cons, List.sum_nil, Value.category, Option.toList_some, Option.toList_none, Nat.reduceAdd, Nat.reduceSub, Nat.reduceLT, Nat.reduceLeDiff, Nat.zero_add, Nat.le_refl, true_and, and_true, Nat.sub_zero, Nat.zero_lt_succ, Nat.zero_le, Nat.not_lt_zero, Nat.reduceEqDiff, Nat.one_ne_zero, nI_toInt, Int.reduceEq, Int.reduceAdd, Int.reduceLT, Int.reduceLE, Int.cast_ofNat_Int, reduceIte, or_false, false_or, eq_self, or_true, true_or, or_self, nI_clamp, vp_in_nI, nI_ltI, nI_leI, nI_eq, nI_add, nI_zero9, nI_nlt0, nI_le0, nI_lt0, arG, va_rf, not_false_eq_true, not_true_eq_false, false_implies, true_implies, implies_true, ne_eq, okv_int, okv_z0, okv_z1, okv_zN, okv_ref, okv_arr, okv_null, vn_z0, vn_z1, vn_zN, nr_int, nr_z, va_up_self, up_fr, rw1_j, rw1_up, h1]
  refine ⟨Nat.le_of_ble_eq_true rfl, Nat.le_of_ble_eq_true rfl, a, rfl, hz, h1, fun f1 g1 g2 fr1 => ?_⟩
  simp (disch := omega) only [q_J4_init_da8c8_0, q_J4_init_da8c8_1, q_J4_init_da8c8_3, q_J4_init_da8c8_6, xpush, xiload, xaload, xlload, xfload, xdload, lkill, xistore, xastore, xfstore, xlstore, xdstore, xiinc, xbin, xdiv, xun, xlbin, xi2l, xi2f, xi2d, xlcmp, xfcmp, xdcmp, xfdiv, xddiv, c1, xdup, xpop, xdup_x1, xdup2, xif, xicmp, xtab, xtabL, xget, xput, xald, xast, xalen, xnew, xnewa, c1s, recvOk, xcall, kont, xret, xlret, xfret, xdret, xaret, xvret, xs, xnewq, xastq, xcopy, xcopyF, xobj, xmax, xmin, xdead, xpushq, xmna, ls0, List.map_cons, List.map_nil, List.length_cons, List.length_nil, List.replicate, List.append_nil, List.cons_append, List.nil_append, List.getElem?_cons_zero, List.getElem?_cons_succ, List.getElem?_nil, List.set_cons_zero, List.set_cons_succ, List.take_succ_cons, List.take_zero, List.drop_succ_cons, List.drop_zero, List.reverse_cons, List.reverse_nil, List.sum_cons, List.sum_nil, Value.category, Option.toList_some, Option.toList_none, Nat.reduceAdd, Nat.reduceSub, Nat.reduceLT, Nat.reduceLeDiff, Nat.zero_add, Nat.le_refl, true_and, and_true, Nat.sub_zero, Nat.zero_lt_succ, Nat.zero_le, Nat.not_lt_zero, Nat.reduceEqDiff, Nat.one_ne_zero, nI_toInt, Int.reduceEq, Int.reduceAdd, Int.reduceLT, Int.reduceLE, Int.cast_ofNat_Int, reduceIte, or_false, false_or, eq_self, or_true, true_or, or_self, nI_clamp, vp_in_nI, nI_ltI, nI_leI, nI_eq, nI_add, nI_zero9, nI_nlt0, nI_le0, nI_lt0, arG, va_rf, not_false_eq_true, not_true_eq_false, false_implies, true_implies, implies_true, ne_eq, okv_int, okv_z0, okv_z1, okv_zN, okv_ref, okv_arr, okv_null, vn_z0, vn_z1, vn_zN, nr_int, nr_z, va_up_self, up_fr, rw1_j, rw1_up]
  exact hK f1 g1 g2 fr1)
abbrev Sp_X8_init : Spt := fun as z f K => ∃ (a : Nat), as = [.ref a] ∧ z = a + 1 ∧ f a = some (.inr (7, [.null, .int (nI 0)])) ∧ ∀ f', isRd f' a cmN → (∀ q, q < a → f' q = f q) → K none (a + 10) f'
def rm_X8_init : Room := { frames := 1, cells := 9, slots := 72, locals := 20 }
def q_X8_init_21 (ls : Ls) (st : List Value) (z : Zz) (f : Fm) (E : Ej) (R : Kr) : Prop := xvret ls st z f E R
def q_X8_init_18 (ls : Ls) (st : List Value) (z : Zz) (f : Fm) (E : Ej) (R : Kr) : Prop := xput 7 1 .int q_X8_init_21 ls st z f E R
def q_X8_init_17 (ls : Ls) (st : List Value) (z : Zz) (f : Fm) (E : Ej) (R : Kr) : Prop := xpush (.int (nI 0)) q_X8_init_18 ls st z f E R
def q_X8_init_16 (ls : Ls) (st : List Value) (z : Zz) (f : Fm) (E : Ej) (R : Kr) : Prop := xaload 0 q_X8_init_17 ls st z f E R
def q_X8_init_13 (ls : Ls) (st : List Value) (z : Zz) (f : Fm) (E : Ej) (R : Kr) : Prop := xput 7 0 (.array (.array .int)) q_X8_init_16 ls st z f E R
def q_X8_init_9 (ls : Ls) (st : List Value) (z : Zz) (f : Fm) (E : Ej) (R : Kr) : Prop := xmna q_X8_init_13 ls st z f E R
def q_X8_init_7 (ls : Ls) (st : List Value) (z : Zz) (f : Fm) (E : Ej) (R : Kr) : Prop := xpush (.int (nI 8)) q_X8_init_9 ls st z f E R
def q_X8_init_5 (ls : Ls) (st : List Value) (z : Zz) (f : Fm) (E : Ej) (R : Kr) : Prop := xpush (.int (nI 8)) q_X8_init_7 ls st z f E R
def q_X8_init_4 (ls : Ls) (st : List Value) (z : Zz) (f : Fm) (E : Ej) (R : Kr) : Prop := xaload 0 q_X8_init_5 ls st z f E R
def q_X8_init_1 (ls : Ls) (st : List Value) (z : Zz) (f : Fm) (E : Ej) (R : Kr) : Prop := xobj q_X8_init_4 ls st z f E R
def q_X8_init_0 (ls : Ls) (st : List Value) (z : Zz) (f : Fm) (E : Ej) (R : Kr) : Prop := xaload 0 q_X8_init_1 ls st z f E R
set_option maxRecDepth 100000 in
theorem t_X8_init {s0 : State} {D : va_G} {ids : Nat → ClassId} {V : Nat → Nat} {l : Launch} {K : Kr} {E : Ej} (G : GG s0 D ids V) (X : EnX s0 D ids l RX8 cX8_init 1 none "<init>" rm_X8_init K E) : Sd E K 0 q_X8_init_0 := by
  have h21 : Sd E K 21 q_X8_init_21 := sd_vret X (by decide +kernel : decode cX8_init 21 = .ok (.return_, 1))
  have h18 : Sd E K 18 q_X8_init_18 := sd_put X (by decide +kernel : decode cX8_init 18 = .ok (.putfield 16, 3)) ok_X8 (Nat.le_of_ble_eq_true rfl) rfl rfl wd_78 h21
  have h17 : Sd E K 17 q_X8_init_17 := sd_iconst X (by decide +kernel : decode cX8_init 17 = .ok (.iconst 0, 1)) (by decide +kernel) h18
  have h16 : Sd E K 16 q_X8_init_16 := sd_aload_n X (by decide +kernel : decode cX8_init 16 = .ok (.aload_n 0, 1)) rfl h17
  have h13 : Sd E K 13 q_X8_init_13 := sd_putF X (by decide +kernel : decode cX8_init 13 = .ok (.putfield 11, 3)) ok_X8 (Nat.le_of_ble_eq_true rfl) rfl rfl rfl wd_77 h16
  have h9 : Sd E K 9 q_X8_init_9 := sd_mna X (by decide +kernel : decode cX8_init 9 = .ok (.multianewarray 9 2, 4)) wd_75 G.am wd_87 h13
  have h7 : Sd E K 7 q_X8_init_7 := sd_bipush X (by decide +kernel : decode cX8_init 7 = .ok (.bipush 8, 2)) (by decide +kernel) h9
  have h5 : Sd E K 5 q_X8_init_5 := sd_bipush X (by decide +kernel : decode cX8_init 5 = .ok (.bipush 8, 2)) (by decide +kernel) h7
  have h4 : Sd E K 4 q_X8_init_4 := sd_aload_n X (by decide +kernel : decode cX8_init 4 = .ok (.aload_n 0, 1)) rfl h5
  have h1 : Sd E K 1 q_X8_init_1 := sd_obj X (by decide +kernel : decode cX8_init 1 = .ok (.invokespecial 3, 3)) wd_74 (Nat.le_of_ble_eq_true rfl) (Nat.le_of_ble_eq_true rfl) h4
  have h0 : Sd E K 0 q_X8_init_0 := sd_aload_n X (by decide +kernel : decode cX8_init 0 = .ok (.aload_n 0, 1)) rfl h1
  exact h0
set_option maxHeartbeats 4000000 in
set_option maxRecDepth 100000 in
theorem ct_X8_init {s0 : State} {D : va_G} {ids : Nat → ClassId} {V : Nat → Nat} {l : Launch} (G : GG s0 D ids V) : CT s0 D ids l yX8_init cX8_init 1 none rm_X8_init Sp_X8_init := CT.of (by decide +kernel) G.k (by
  rintro as z f K E ⟨a, rfl, rfl, h1, hK⟩ X
  refine ⟨Nat.le_of_ble_eq_true rfl, by simp [Value.category], t_X8_init G X _ _ _ _ ?_⟩
  simp (disch := omega) only [q_X8_init_0, q_X8_init_1, q_X8_init_4, q_X8_init_5, q_X8_init_7, q_X8_init_9, q_X8_init_13, q_X8_init_16, q_X8_init_17, q_X8_init_18, q_X8_init_21, xpush, xiload, xaload, xlload, xfload, xdload, lkill, xistore, xastore, xfstore, xlstore, xdstore, xiinc, xbin, xdiv, xun, xlbin, xi2l, xi2f, xi2d, xlcmp, xfcmp, xdcmp, xfdiv, xddiv, c1, xdup, xpop, xdup_x1, xdup2, xif, xicmp, xtab, xtabL, xget, xput, xald, xast, xalen, xnew, xnewa, c1s, recvOk, xcall, kont, xret, xlret, xfret, xdret, xaret, xvret, xs, xnewq, xastq, xcopy, xcopyF, xobj, xmax, xmin, xdead, xpushq, xmna, ls0, List.map_cons, List.map_nil, List.length_cons, List.length_nil, List.replicate, List.append_nil, List.cons_append, List.nil_append, List.getElem?_cons_zero, List.getElem?_cons_succ, List.getElem?_nil, List.set_cons_zero, List.set_cons_succ, List.take_succ_cons, List.take_zero, List.drop_succ_cons, List.drop_zero, List.reverse_cons, List.reverse_nil, List.sum_cons, List.sum_nil, Value.category, Option.toList_some, Option.toList_none, Nat.reduceAdd, Nat.reduceSub, Nat.reduceLT, Nat.reduceLeDiff, Nat.zero_add, Nat.le_refl, true_and, and_true, Nat.sub_zero, Nat.zero_lt_succ, Nat.zero_le, Nat.not_lt_zero, Nat.reduceEqDiff, Nat.one_ne_zero, nI_toInt, Int.reduceEq, Int.reduceAdd, Int.reduceLT, Int.reduceLE, Int.cast_ofNat_Int, reduceIte, or_false, false_or, eq_self, or_true, true_or, or_self, nI_clamp, vp_in_nI, nI_ltI, nI_leI, nI_eq, nI_add, nI_zero9, nI_nlt0, nI_le0, nI_lt0, arG, va_rf, not_false_eq_true, not_true_eq_false, false_implies, true_implies, implies_true, ne_eq, okv_int, okv_z0, okv_z1, okv_zN, okv_ref, okv_arr, okv_null, vn_z0, vn_z1, vn_zN, nr_int, nr_z, va_up_self, up_fr, rw1_j, rw1_up, h1, mna_fr]
  refine ⟨Nat.le_of_ble_eq_true rfl, Nat.le_of_ble_eq_true rfl, ?_⟩
  refine hK _ ⟨va_up_self _ _ _, ?_⟩ (fun q hq => by rw [up_fr (by omega), up_fr (by omega), mna_fr (by omega)])
  rw [cmN_z (by omega)]
  exact isGr.mna.fr (fun q h1 h2 => by rw [up_fr (by omega), up_fr (by omega)]))
abbrev Sp_X9_init : Spt := fun as z f K => ∃ (a : Nat), as = [.ref a] ∧ z = a + 1 ∧ f a = some (.inr (8, [.null, .null, .null, .null])) ∧ ∀ f', isRt f' a cmN → (∀ q, q < a → f' q = f q) → K none (a + 37) f'
def rm_X9_init : Room := { frames := 1, cells := 36, slots := 288, locals := 20 }
def q_X9_init_52 (ls : Ls) (st : List Value) (z : Zz) (f : Fm) (E : Ej) (R : Kr) : Prop := xvret ls st z f E R
def q_X9_init_49 (ls : Ls) (st : List Value) (z : Zz) (f : Fm) (E : Ej) (R : Kr) : Prop := xput 8 3 (.array (.array .int)) q_X9_init_52 ls st z f E R
def q_X9_init_45 (ls : Ls) (st : List Value) (z : Zz) (f : Fm) (E : Ej) (R : Kr) : Prop := xmna q_X9_init_49 ls st z f E R
def q_X9_init_43 (ls : Ls) (st : List Value) (z : Zz) (f : Fm) (E : Ej) (R : Kr) : Prop := xpush (.int (nI 8)) q_X9_init_45 ls st z f E R
def q_X9_init_41 (ls : Ls) (st : List Value) (z : Zz) (f : Fm) (E : Ej) (R : Kr) : Prop := xpush (.int (nI 8)) q_X9_init_43 ls st z f E R
def q_X9_init_40 (ls : Ls) (st : List Value) (z : Zz) (f : Fm) (E : Ej) (R : Kr) : Prop := xaload 0 q_X9_init_41 ls st z f E R
def q_X9_init_37 (ls : Ls) (st : List Value) (z : Zz) (f : Fm) (E : Ej) (R : Kr) : Prop := xput 8 2 (.array (.array .int)) q_X9_init_40 ls st z f E R
def q_X9_init_33 (ls : Ls) (st : List Value) (z : Zz) (f : Fm) (E : Ej) (R : Kr) : Prop := xmna q_X9_init_37 ls st z f E R
def q_X9_init_31 (ls : Ls) (st : List Value) (z : Zz) (f : Fm) (E : Ej) (R : Kr) : Prop := xpush (.int (nI 8)) q_X9_init_33 ls st z f E R
def q_X9_init_29 (ls : Ls) (st : List Value) (z : Zz) (f : Fm) (E : Ej) (R : Kr) : Prop := xpush (.int (nI 8)) q_X9_init_31 ls st z f E R
def q_X9_init_28 (ls : Ls) (st : List Value) (z : Zz) (f : Fm) (E : Ej) (R : Kr) : Prop := xaload 0 q_X9_init_29 ls st z f E R
def q_X9_init_25 (ls : Ls) (st : List Value) (z : Zz) (f : Fm) (E : Ej) (R : Kr) : Prop := xput 8 1 (.array (.array .int)) q_X9_init_28 ls st z f E R
def q_X9_init_21 (ls : Ls) (st : List Value) (z : Zz) (f : Fm) (E : Ej) (R : Kr) : Prop := xmna q_X9_init_25 ls st z f E R
def q_X9_init_19 (ls : Ls) (st : List Value) (z : Zz) (f : Fm) (E : Ej) (R : Kr) : Prop := xpush (.int (nI 8)) q_X9_init_21 ls st z f E R
def q_X9_init_17 (ls : Ls) (st : List Value) (z : Zz) (f : Fm) (E : Ej) (R : Kr) : Prop := xpush (.int (nI 8)) q_X9_init_19 ls st z f E R
def q_X9_init_16 (ls : Ls) (st : List Value) (z : Zz) (f : Fm) (E : Ej) (R : Kr) : Prop := xaload 0 q_X9_init_17 ls st z f E R
def q_X9_init_13 (ls : Ls) (st : List Value) (z : Zz) (f : Fm) (E : Ej) (R : Kr) : Prop := xput 8 0 (.array (.array .int)) q_X9_init_16 ls st z f E R
def q_X9_init_9 (ls : Ls) (st : List Value) (z : Zz) (f : Fm) (E : Ej) (R : Kr) : Prop := xmna q_X9_init_13 ls st z f E R
def q_X9_init_7 (ls : Ls) (st : List Value) (z : Zz) (f : Fm) (E : Ej) (R : Kr) : Prop := xpush (.int (nI 8)) q_X9_init_9 ls st z f E R
def q_X9_init_5 (ls : Ls) (st : List Value) (z : Zz) (f : Fm) (E : Ej) (R : Kr) : Prop := xpush (.int (nI 8)) q_X9_init_7 ls st z f E R
def q_X9_init_4 (ls : Ls) (st : List Value) (z : Zz) (f : Fm) (E : Ej) (R : Kr) : Prop := xaload 0 q_X9_init_5 ls st z f E R
def q_X9_init_1 (ls : Ls) (st : List Value) (z : Zz) (f : Fm) (E : Ej) (R : Kr) : Prop := xobj q_X9_init_4 ls st z f E R
def q_X9_init_0 (ls : Ls) (st : List Value) (z : Zz) (f : Fm) (E : Ej) (R : Kr) : Prop := xaload 0 q_X9_init_1 ls st z f E R
set_option maxRecDepth 100000 in
theorem t_X9_init {s0 : State} {D : va_G} {ids : Nat → ClassId} {V : Nat → Nat} {l : Launch} {K : Kr} {E : Ej} (G : GG s0 D ids V) (X : EnX s0 D ids l RX9 cX9_init 1 none "<init>" rm_X9_init K E) : Sd E K 0 q_X9_init_0 := by
  have h52 : Sd E K 52 q_X9_init_52 := sd_vret X (by decide +kernel : decode cX9_init 52 = .ok (.return_, 1))
  have h49 : Sd E K 49 q_X9_init_49 := sd_putF X (by decide +kernel : decode cX9_init 49 = .ok (.putfield 22, 3)) ok_X9 (Nat.le_of_ble_eq_true rfl) rfl rfl rfl wd_105 h52
  have h45 : Sd E K 45 q_X9_init_45 := sd_mna X (by decide +kernel : decode cX9_init 45 = .ok (.multianewarray 9 2, 4)) wd_94 G.am wd_87 h49
  have h43 : Sd E K 43 q_X9_init_43 := sd_bipush X (by decide +kernel : decode cX9_init 43 = .ok (.bipush 8, 2)) (by decide +kernel) h45
  have h41 : Sd E K 41 q_X9_init_41 := sd_bipush X (by decide +kernel : decode cX9_init 41 = .ok (.bipush 8, 2)) (by decide +kernel) h43
  have h40 : Sd E K 40 q_X9_init_40 := sd_aload_n X (by decide +kernel : decode cX9_init 40 = .ok (.aload_n 0, 1)) rfl h41
  have h37 : Sd E K 37 q_X9_init_37 := sd_putF X (by decide +kernel : decode cX9_init 37 = .ok (.putfield 19, 3)) ok_X9 (Nat.le_of_ble_eq_true rfl) rfl rfl rfl wd_103 h40
  have h33 : Sd E K 33 q_X9_init_33 := sd_mna X (by decide +kernel : decode cX9_init 33 = .ok (.multianewarray 9 2, 4)) wd_94 G.am wd_87 h37
  have h31 : Sd E K 31 q_X9_init_31 := sd_bipush X (by decide +kernel : decode cX9_init 31 = .ok (.bipush 8, 2)) (by decide +kernel) h33
  have h29 : Sd E K 29 q_X9_init_29 := sd_bipush X (by decide +kernel : decode cX9_init 29 = .ok (.bipush 8, 2)) (by decide +kernel) h31
  have h28 : Sd E K 28 q_X9_init_28 := sd_aload_n X (by decide +kernel : decode cX9_init 28 = .ok (.aload_n 0, 1)) rfl h29
  have h25 : Sd E K 25 q_X9_init_25 := sd_putF X (by decide +kernel : decode cX9_init 25 = .ok (.putfield 16, 3)) ok_X9 (Nat.le_of_ble_eq_true rfl) rfl rfl rfl wd_98 h28
  have h21 : Sd E K 21 q_X9_init_21 := sd_mna X (by decide +kernel : decode cX9_init 21 = .ok (.multianewarray 9 2, 4)) wd_94 G.am wd_87 h25
  have h19 : Sd E K 19 q_X9_init_19 := sd_bipush X (by decide +kernel : decode cX9_init 19 = .ok (.bipush 8, 2)) (by decide +kernel) h21
  have h17 : Sd E K 17 q_X9_init_17 := sd_bipush X (by decide +kernel : decode cX9_init 17 = .ok (.bipush 8, 2)) (by decide +kernel) h19
  have h16 : Sd E K 16 q_X9_init_16 := sd_aload_n X (by decide +kernel : decode cX9_init 16 = .ok (.aload_n 0, 1)) rfl h17
  have h13 : Sd E K 13 q_X9_init_13 := sd_putF X (by decide +kernel : decode cX9_init 13 = .ok (.putfield 11, 3)) ok_X9 (Nat.le_of_ble_eq_true rfl) rfl rfl rfl wd_95 h16
  have h9 : Sd E K 9 q_X9_init_9 := sd_mna X (by decide +kernel : decode cX9_init 9 = .ok (.multianewarray 9 2, 4)) wd_94 G.am wd_87 h13
  have h7 : Sd E K 7 q_X9_init_7 := sd_bipush X (by decide +kernel : decode cX9_init 7 = .ok (.bipush 8, 2)) (by decide +kernel) h9
  have h5 : Sd E K 5 q_X9_init_5 := sd_bipush X (by decide +kernel : decode cX9_init 5 = .ok (.bipush 8, 2)) (by decide +kernel) h7
  have h4 : Sd E K 4 q_X9_init_4 := sd_aload_n X (by decide +kernel : decode cX9_init 4 = .ok (.aload_n 0, 1)) rfl h5
  have h1 : Sd E K 1 q_X9_init_1 := sd_obj X (by decide +kernel : decode cX9_init 1 = .ok (.invokespecial 3, 3)) wd_93 (Nat.le_of_ble_eq_true rfl) (Nat.le_of_ble_eq_true rfl) h4
  have h0 : Sd E K 0 q_X9_init_0 := sd_aload_n X (by decide +kernel : decode cX9_init 0 = .ok (.aload_n 0, 1)) rfl h1
  exact h0
set_option maxHeartbeats 4000000 in
set_option maxRecDepth 100000 in
theorem ct_X9_init {s0 : State} {D : va_G} {ids : Nat → ClassId} {V : Nat → Nat} {l : Launch} (G : GG s0 D ids V) : CT s0 D ids l yX9_init cX9_init 1 none rm_X9_init Sp_X9_init := CT.of (by decide +kernel) G.k (by
  rintro as z f K E ⟨a, rfl, rfl, h1, hK⟩ X
  refine ⟨Nat.le_of_ble_eq_true rfl, by simp [Value.category], t_X9_init G X _ _ _ _ ?_⟩
  simp (disch := omega) only [q_X9_init_0, q_X9_init_1, q_X9_init_4, q_X9_init_5, q_X9_init_7, q_X9_init_9, q_X9_init_13, q_X9_init_16, q_X9_init_17, q_X9_init_19, q_X9_init_21, q_X9_init_25, q_X9_init_28, q_X9_init_29, q_X9_init_31, q_X9_init_33, q_X9_init_37, q_X9_init_40, q_X9_init_41, q_X9_init_43, q_X9_init_45, q_X9_init_49, q_X9_init_52, xpush, xiload, xaload, xlload, xfload, xdload, lkill, xistore, xastore, xfstore, xlstore, xdstore, xiinc, xbin, xdiv, xun, xlbin, xi2l, xi2f, xi2d, xlcmp, xfcmp, xdcmp, xfdiv, xddiv, c1, xdup, xpop, xdup_x1, xdup2, xif, xicmp, xtab, xtabL, xget, xput, xald, xast, xalen, xnew, xnewa, c1s, recvOk, xcall, kont, xret, xlret, xfret, xdret, xaret, xvret, xs, xnewq, xastq, xcopy, xcopyF, xobj, xmax, xmin, xdead, xpushq, xmna, ls0, List.map_cons, List.map_nil, List.length_cons, List.length_nil, List.replicate, List.append_nil, List.cons_append, List.nil_append, List.getElem?_cons_zero, List.getElem?_cons_succ, List.getElem?_nil, List.set_cons_zero, List.set_cons_succ, List.take_succ_cons, List.take_zero, List.drop_succ_cons, List.drop_zero, List.reverse_cons, List.reverse_nil, List.sum_cons, List.sum_nil, Value.category, Option.toList_some, Option.toList_none, Nat.reduceAdd, Nat.reduceSub, Nat.reduceLT, Nat.reduceLeDiff, Nat.zero_add, Nat.le_refl, true_and, and_true, Nat.sub_zero, Nat.zero_lt_succ, Nat.zero_le, Nat.not_lt_zero, Nat.reduceEqDiff, Nat.one_ne_zero, nI_toInt, Int.reduceEq, Int.reduceAdd, Int.reduceLT, Int.reduceLE, Int.cast_ofNat_Int, reduceIte, or_false, false_or, eq_self, or_true, true_or, or_self, nI_clamp, vp_in_nI, nI_ltI, nI_leI, nI_eq, nI_add, nI_zero9, nI_nlt0, nI_le0, nI_lt0, arG, va_rf, not_false_eq_true, not_true_eq_false, false_implies, true_implies, implies_true, ne_eq, okv_int, okv_z0, okv_z1, okv_zN, okv_ref, okv_arr, okv_null, vn_z0, vn_z1, vn_zN, nr_int, nr_z, va_up_self, up_fr, rw1_j, rw1_up, h1, mna_fr]
  refine ⟨Nat.le_of_ble_eq_true rfl, Nat.le_of_ble_eq_true rfl, Nat.le_of_ble_eq_true rfl, Nat.le_of_ble_eq_true rfl, Nat.le_of_ble_eq_true rfl, Nat.le_of_ble_eq_true rfl, Nat.le_of_ble_eq_true rfl, Nat.le_of_ble_eq_true rfl, ?_⟩
  refine hK _ ⟨va_up_self _ _ _, ?_⟩ (fun q hq => by simp (disch := omega) only [up_fr, mna_fr])
  simp (disch := omega) only [cmN_z]
  refine ⟨?_, ?_, ?_, ?_⟩
  · exact (isGr.mna (f := f) (a := a + 1)).fr (fun q h1 h2 => by simp (disch := omega) only [up_fr, mna_fr])
  · exact (isGr.mna (a := a + 1 + 1 + 8)).fr (fun q h1 h2 => by simp (disch := omega) only [up_fr, mna_fr]; rfl)
  · exact (isGr.mna (a := a + 1 + 1 + 8 + 1 + 8)).fr (fun q h1 h2 => by simp (disch := omega) only [up_fr, mna_fr]; rfl)
  · exact (isGr.mna (a := a + 1 + 1 + 8 + 1 + 8 + 1 + 8)).fr (fun q h1 h2 => by simp (disch := omega) only [up_fr, mna_fr]; rfl))
abbrev Sp_X5_init : Spt := fun as z f K => ∃ (a : Nat), as = [.ref a] ∧ z = a + 1 ∧ f a = some (.inr (4, [.null, .null, .null, .null, .null, .int (nI 0)])) ∧ ∀ f', isLt f' a cmN → (∀ q, q < a → f' q = f q) → K none (a + 6) f'
def rm_X5_init : Room := { frames := 1, cells := 5, slots := 50, locals := 20 }
def q_X5_init_49 (ls : Ls) (st : List Value) (z : Zz) (f : Fm) (E : Ej) (R : Kr) : Prop := xvret ls st z f E R
def q_X5_init_46 (ls : Ls) (st : List Value) (z : Zz) (f : Fm) (E : Ej) (R : Kr) : Prop := xput 4 5 .int q_X5_init_49 ls st z f E R
def q_X5_init_45 (ls : Ls) (st : List Value) (z : Zz) (f : Fm) (E : Ej) (R : Kr) : Prop := xpush (.int (nI 0)) q_X5_init_46 ls st z f E R
def q_X5_init_44 (ls : Ls) (st : List Value) (z : Zz) (f : Fm) (E : Ej) (R : Kr) : Prop := xaload 0 q_X5_init_45 ls st z f E R
def q_X5_init_41 (ls : Ls) (st : List Value) (z : Zz) (f : Fm) (E : Ej) (R : Kr) : Prop := xput 4 4 (.array .int) q_X5_init_44 ls st z f E R
def q_X5_init_39 (ls : Ls) (st : List Value) (z : Zz) (f : Fm) (E : Ej) (R : Kr) : Prop := xnewa 1 q_X5_init_41 ls st z f E R
def q_X5_init_37 (ls : Ls) (st : List Value) (z : Zz) (f : Fm) (E : Ej) (R : Kr) : Prop := xpush (.int (nI 10)) q_X5_init_39 ls st z f E R
def q_X5_init_36 (ls : Ls) (st : List Value) (z : Zz) (f : Fm) (E : Ej) (R : Kr) : Prop := xaload 0 q_X5_init_37 ls st z f E R
def q_X5_init_33 (ls : Ls) (st : List Value) (z : Zz) (f : Fm) (E : Ej) (R : Kr) : Prop := xput 4 3 (.array .int) q_X5_init_36 ls st z f E R
def q_X5_init_31 (ls : Ls) (st : List Value) (z : Zz) (f : Fm) (E : Ej) (R : Kr) : Prop := xnewa 1 q_X5_init_33 ls st z f E R
def q_X5_init_29 (ls : Ls) (st : List Value) (z : Zz) (f : Fm) (E : Ej) (R : Kr) : Prop := xpush (.int (nI 10)) q_X5_init_31 ls st z f E R
def q_X5_init_28 (ls : Ls) (st : List Value) (z : Zz) (f : Fm) (E : Ej) (R : Kr) : Prop := xaload 0 q_X5_init_29 ls st z f E R
def q_X5_init_25 (ls : Ls) (st : List Value) (z : Zz) (f : Fm) (E : Ej) (R : Kr) : Prop := xput 4 2 (.array .int) q_X5_init_28 ls st z f E R
def q_X5_init_23 (ls : Ls) (st : List Value) (z : Zz) (f : Fm) (E : Ej) (R : Kr) : Prop := xnewa 1 q_X5_init_25 ls st z f E R
def q_X5_init_21 (ls : Ls) (st : List Value) (z : Zz) (f : Fm) (E : Ej) (R : Kr) : Prop := xpush (.int (nI 10)) q_X5_init_23 ls st z f E R
def q_X5_init_20 (ls : Ls) (st : List Value) (z : Zz) (f : Fm) (E : Ej) (R : Kr) : Prop := xaload 0 q_X5_init_21 ls st z f E R
def q_X5_init_17 (ls : Ls) (st : List Value) (z : Zz) (f : Fm) (E : Ej) (R : Kr) : Prop := xput 4 1 (.array .int) q_X5_init_20 ls st z f E R
def q_X5_init_15 (ls : Ls) (st : List Value) (z : Zz) (f : Fm) (E : Ej) (R : Kr) : Prop := xnewa 1 q_X5_init_17 ls st z f E R
def q_X5_init_13 (ls : Ls) (st : List Value) (z : Zz) (f : Fm) (E : Ej) (R : Kr) : Prop := xpush (.int (nI 10)) q_X5_init_15 ls st z f E R
def q_X5_init_12 (ls : Ls) (st : List Value) (z : Zz) (f : Fm) (E : Ej) (R : Kr) : Prop := xaload 0 q_X5_init_13 ls st z f E R
def q_X5_init_9 (ls : Ls) (st : List Value) (z : Zz) (f : Fm) (E : Ej) (R : Kr) : Prop := xput 4 0 (.array .int) q_X5_init_12 ls st z f E R
def q_X5_init_7 (ls : Ls) (st : List Value) (z : Zz) (f : Fm) (E : Ej) (R : Kr) : Prop := xnewa 1 q_X5_init_9 ls st z f E R
def q_X5_init_5 (ls : Ls) (st : List Value) (z : Zz) (f : Fm) (E : Ej) (R : Kr) : Prop := xpush (.int (nI 10)) q_X5_init_7 ls st z f E R
def q_X5_init_4 (ls : Ls) (st : List Value) (z : Zz) (f : Fm) (E : Ej) (R : Kr) : Prop := xaload 0 q_X5_init_5 ls st z f E R
def q_X5_init_1 (ls : Ls) (st : List Value) (z : Zz) (f : Fm) (E : Ej) (R : Kr) : Prop := xobj q_X5_init_4 ls st z f E R
def q_X5_init_0 (ls : Ls) (st : List Value) (z : Zz) (f : Fm) (E : Ej) (R : Kr) : Prop := xaload 0 q_X5_init_1 ls st z f E R
set_option maxRecDepth 100000 in
theorem t_X5_init {s0 : State} {D : va_G} {ids : Nat → ClassId} {V : Nat → Nat} {l : Launch} {K : Kr} {E : Ej} (G : GG s0 D ids V) (X : EnX s0 D ids l RX5 cX5_init 1 none "<init>" rm_X5_init K E) : Sd E K 0 q_X5_init_0 := by
  have h49 : Sd E K 49 q_X5_init_49 := sd_vret X (by decide +kernel : decode cX5_init 49 = .ok (.return_, 1))
  have h46 : Sd E K 46 q_X5_init_46 := sd_put X (by decide +kernel : decode cX5_init 46 = .ok (.putfield 27, 3)) ok_X5 (Nat.le_of_ble_eq_true rfl) rfl rfl wd_127 h49
  have h45 : Sd E K 45 q_X5_init_45 := sd_iconst X (by decide +kernel : decode cX5_init 45 = .ok (.iconst 0, 1)) (by decide +kernel) h46
  have h44 : Sd E K 44 q_X5_init_44 := sd_aload_n X (by decide +kernel : decode cX5_init 44 = .ok (.aload_n 0, 1)) rfl h45
  have h41 : Sd E K 41 q_X5_init_41 := sd_putF X (by decide +kernel : decode cX5_init 41 = .ok (.putfield 24, 3)) ok_X5 (Nat.le_of_ble_eq_true rfl) rfl rfl rfl wd_126 h44
  have h39 : Sd E K 39 q_X5_init_39 := sd_newa X (Nat.le_of_ble_eq_true rfl) rfl rfl (by decide) (by decide +kernel : decode cX5_init 39 = .ok (.newarray .int, 2)) wd_87 (G.nm1) h41
  have h37 : Sd E K 37 q_X5_init_37 := sd_bipush X (by decide +kernel : decode cX5_init 37 = .ok (.bipush 10, 2)) (by decide +kernel) h39
  have h36 : Sd E K 36 q_X5_init_36 := sd_aload_n X (by decide +kernel : decode cX5_init 36 = .ok (.aload_n 0, 1)) rfl h37
  have h33 : Sd E K 33 q_X5_init_33 := sd_putF X (by decide +kernel : decode cX5_init 33 = .ok (.putfield 21, 3)) ok_X5 (Nat.le_of_ble_eq_true rfl) rfl rfl rfl wd_125 h36
  have h31 : Sd E K 31 q_X5_init_31 := sd_newa X (Nat.le_of_ble_eq_true rfl) rfl rfl (by decide) (by decide +kernel : decode cX5_init 31 = .ok (.newarray .int, 2)) wd_87 (G.nm1) h33
  have h29 : Sd E K 29 q_X5_init_29 := sd_bipush X (by decide +kernel : decode cX5_init 29 = .ok (.bipush 10, 2)) (by decide +kernel) h31
  have h28 : Sd E K 28 q_X5_init_28 := sd_aload_n X (by decide +kernel : decode cX5_init 28 = .ok (.aload_n 0, 1)) rfl h29
  have h25 : Sd E K 25 q_X5_init_25 := sd_putF X (by decide +kernel : decode cX5_init 25 = .ok (.putfield 18, 3)) ok_X5 (Nat.le_of_ble_eq_true rfl) rfl rfl rfl wd_124 h28
  have h23 : Sd E K 23 q_X5_init_23 := sd_newa X (Nat.le_of_ble_eq_true rfl) rfl rfl (by decide) (by decide +kernel : decode cX5_init 23 = .ok (.newarray .int, 2)) wd_87 (G.nm1) h25
  have h21 : Sd E K 21 q_X5_init_21 := sd_bipush X (by decide +kernel : decode cX5_init 21 = .ok (.bipush 10, 2)) (by decide +kernel) h23
  have h20 : Sd E K 20 q_X5_init_20 := sd_aload_n X (by decide +kernel : decode cX5_init 20 = .ok (.aload_n 0, 1)) rfl h21
  have h17 : Sd E K 17 q_X5_init_17 := sd_putF X (by decide +kernel : decode cX5_init 17 = .ok (.putfield 15, 3)) ok_X5 (Nat.le_of_ble_eq_true rfl) rfl rfl rfl wd_123 h20
  have h15 : Sd E K 15 q_X5_init_15 := sd_newa X (Nat.le_of_ble_eq_true rfl) rfl rfl (by decide) (by decide +kernel : decode cX5_init 15 = .ok (.newarray .int, 2)) wd_87 (G.nm1) h17
  have h13 : Sd E K 13 q_X5_init_13 := sd_bipush X (by decide +kernel : decode cX5_init 13 = .ok (.bipush 10, 2)) (by decide +kernel) h15
  have h12 : Sd E K 12 q_X5_init_12 := sd_aload_n X (by decide +kernel : decode cX5_init 12 = .ok (.aload_n 0, 1)) rfl h13
  have h9 : Sd E K 9 q_X5_init_9 := sd_putF X (by decide +kernel : decode cX5_init 9 = .ok (.putfield 9, 3)) ok_X5 (Nat.le_of_ble_eq_true rfl) rfl rfl rfl wd_122 h12
  have h7 : Sd E K 7 q_X5_init_7 := sd_newa X (Nat.le_of_ble_eq_true rfl) rfl rfl (by decide) (by decide +kernel : decode cX5_init 7 = .ok (.newarray .int, 2)) wd_87 (G.nm1) h9
  have h5 : Sd E K 5 q_X5_init_5 := sd_bipush X (by decide +kernel : decode cX5_init 5 = .ok (.bipush 10, 2)) (by decide +kernel) h7
  have h4 : Sd E K 4 q_X5_init_4 := sd_aload_n X (by decide +kernel : decode cX5_init 4 = .ok (.aload_n 0, 1)) rfl h5
  have h1 : Sd E K 1 q_X5_init_1 := sd_obj X (by decide +kernel : decode cX5_init 1 = .ok (.invokespecial 3, 3)) wd_121 (Nat.le_of_ble_eq_true rfl) (Nat.le_of_ble_eq_true rfl) h4
  have h0 : Sd E K 0 q_X5_init_0 := sd_aload_n X (by decide +kernel : decode cX5_init 0 = .ok (.aload_n 0, 1)) rfl h1
  exact h0
set_option maxHeartbeats 4000000 in
set_option maxRecDepth 100000 in
theorem ct_X5_init {s0 : State} {D : va_G} {ids : Nat → ClassId} {V : Nat → Nat} {l : Launch} (G : GG s0 D ids V) : CT s0 D ids l yX5_init cX5_init 1 none rm_X5_init Sp_X5_init := CT.of (by decide +kernel) G.k (by
  rintro as z f K E ⟨a, rfl, rfl, h1, hK⟩ X
  refine ⟨Nat.le_of_ble_eq_true rfl, by simp [Value.category], t_X5_init G X _ _ _ _ ?_⟩
  simp (disch := omega) only [q_X5_init_0, q_X5_init_1, q_X5_init_4, q_X5_init_5, q_X5_init_7, q_X5_init_9, q_X5_init_12, q_X5_init_13, q_X5_init_15, q_X5_init_17, q_X5_init_20, q_X5_init_21, q_X5_init_23, q_X5_init_25, q_X5_init_28, q_X5_init_29, q_X5_init_31, q_X5_init_33, q_X5_init_36, q_X5_init_37, q_X5_init_39, q_X5_init_41, q_X5_init_44, q_X5_init_45, q_X5_init_46, q_X5_init_49, xpush, xiload, xaload, xlload, xfload, xdload, lkill, xistore, xastore, xfstore, xlstore, xdstore, xiinc, xbin, xdiv, xun, xlbin, xi2l, xi2f, xi2d, xlcmp, xfcmp, xdcmp, xfdiv, xddiv, c1, xdup, xpop, xdup_x1, xdup2, xif, xicmp, xtab, xtabL, xget, xput, xald, xast, xalen, xnew, xnewa, c1s, recvOk, xcall, kont, xret, xlret, xfret, xdret, xaret, xvret, xs, xnewq, xastq, xcopy, xcopyF, xobj, xmax, xmin, xdead, xpushq, xmna, ls0, List.map_cons, List.map_nil, List.length_cons, List.length_nil, List.replicate, List.append_nil, List.cons_append, List.nil_append, List.getElem?_cons_zero, List.getElem?_cons_succ, List.getElem?_nil, List.set_cons_zero, List.set_cons_succ, List.take_succ_cons, List.take_zero, List.drop_succ_cons, List.drop_zero, List.reverse_cons, List.reverse_nil, List.sum_cons, List.sum_nil, Value.category, Option.toList_some, Option.toList_none, Nat.reduceAdd, Nat.reduceSub, Nat.reduceLT, Nat.reduceLeDiff, Nat.zero_add, Nat.le_refl, true_and, and_true, Nat.sub_zero, Nat.zero_lt_succ, Nat.zero_le, Nat.not_lt_zero, Nat.reduceEqDiff, Nat.one_ne_zero, nI_toInt, Int.reduceEq, Int.reduceAdd, Int.reduceLT, Int.reduceLE, Int.cast_ofNat_Int, reduceIte, or_false, false_or, eq_self, or_true, true_or, or_self, nI_clamp, vp_in_nI, nI_ltI, nI_leI, nI_eq, nI_add, nI_zero9, nI_nlt0, nI_le0, nI_lt0, arG, va_rf, not_false_eq_true, not_true_eq_false, false_implies, true_implies, implies_true, ne_eq, okv_int, okv_z0, okv_z1, okv_zN, okv_ref, okv_arr, okv_null, vn_z0, vn_z1, vn_zN, nr_int, nr_z, va_up_self, up_fr, rw1_j, rw1_up, h1]
  refine ⟨Nat.le_of_ble_eq_true rfl, Nat.le_of_ble_eq_true rfl, Nat.le_of_ble_eq_true rfl, Nat.le_of_ble_eq_true rfl, Nat.le_of_ble_eq_true rfl, Nat.le_of_ble_eq_true rfl, Nat.le_of_ble_eq_true rfl, Nat.le_of_ble_eq_true rfl, Nat.le_of_ble_eq_true rfl, Nat.le_of_ble_eq_true rfl, ?_⟩
  refine hK _ ⟨va_up_self _ _ _, ?_⟩ (fun q hq => by simp (disch := omega) only [up_fr])
  simp (disch := omega) only [va_up_self, up_fr, cmN_z]
  exact ⟨rfl, rfl, rfl, rfl, rfl⟩)
abbrev Sp_X1_init : Spt := fun as z f K => ∃ (a : Nat), as = [.ref a] ∧ z = a + 1 ∧ f a = some (.inr (1, [.null, .null, .null, .null, .int (nI 0), .int (nI 0), .int (nI 0), .int (nI 0), .int (nI 0), .int (nI 0)])) ∧ ∀ f', isCo f' a cmN → (∀ q, q < a → f' q = f q) → K none (a + 55) f'
def rm_X1_init : Room := { frames := 2, cells := 54, slots := 430, locals := 40 }
def q_X1_init_76 (ls : Ls) (st : List Value) (z : Zz) (f : Fm) (E : Ej) (R : Kr) : Prop := xvret ls st z f E R
def q_X1_init_73 (ls : Ls) (st : List Value) (z : Zz) (f : Fm) (E : Ej) (R : Kr) : Prop := xput 1 9 .int q_X1_init_76 ls st z f E R
def q_X1_init_72 (ls : Ls) (st : List Value) (z : Zz) (f : Fm) (E : Ej) (R : Kr) : Prop := xpush (.int (nI 0)) q_X1_init_73 ls st z f E R
def q_X1_init_71 (ls : Ls) (st : List Value) (z : Zz) (f : Fm) (E : Ej) (R : Kr) : Prop := xaload 0 q_X1_init_72 ls st z f E R
def q_X1_init_68 (ls : Ls) (st : List Value) (z : Zz) (f : Fm) (E : Ej) (R : Kr) : Prop := xput 1 8 .int q_X1_init_71 ls st z f E R
def q_X1_init_67 (ls : Ls) (st : List Value) (z : Zz) (f : Fm) (E : Ej) (R : Kr) : Prop := xpush (.int (nI 0)) q_X1_init_68 ls st z f E R
def q_X1_init_66 (ls : Ls) (st : List Value) (z : Zz) (f : Fm) (E : Ej) (R : Kr) : Prop := xaload 0 q_X1_init_67 ls st z f E R
def q_X1_init_63 (ls : Ls) (st : List Value) (z : Zz) (f : Fm) (E : Ej) (R : Kr) : Prop := xput 1 7 .int q_X1_init_66 ls st z f E R
def q_X1_init_62 (ls : Ls) (st : List Value) (z : Zz) (f : Fm) (E : Ej) (R : Kr) : Prop := xpush (.int (nI 0)) q_X1_init_63 ls st z f E R
def q_X1_init_61 (ls : Ls) (st : List Value) (z : Zz) (f : Fm) (E : Ej) (R : Kr) : Prop := xaload 0 q_X1_init_62 ls st z f E R
def q_X1_init_58 (ls : Ls) (st : List Value) (z : Zz) (f : Fm) (E : Ej) (R : Kr) : Prop := xput 1 6 .int q_X1_init_61 ls st z f E R
def q_X1_init_56 (ls : Ls) (st : List Value) (z : Zz) (f : Fm) (E : Ej) (R : Kr) : Prop := xpush (.int (nI 8)) q_X1_init_58 ls st z f E R
def q_X1_init_55 (ls : Ls) (st : List Value) (z : Zz) (f : Fm) (E : Ej) (R : Kr) : Prop := xaload 0 q_X1_init_56 ls st z f E R
def q_X1_init_52 (ls : Ls) (st : List Value) (z : Zz) (f : Fm) (E : Ej) (R : Kr) : Prop := xput 1 5 .int q_X1_init_55 ls st z f E R
def q_X1_init_51 (ls : Ls) (st : List Value) (z : Zz) (f : Fm) (E : Ej) (R : Kr) : Prop := xpush (.int (nI 0)) q_X1_init_52 ls st z f E R
def q_X1_init_50 (ls : Ls) (st : List Value) (z : Zz) (f : Fm) (E : Ej) (R : Kr) : Prop := xaload 0 q_X1_init_51 ls st z f E R
def q_X1_init_47 (ls : Ls) (st : List Value) (z : Zz) (f : Fm) (E : Ej) (R : Kr) : Prop := xput 1 4 .int q_X1_init_50 ls st z f E R
def q_X1_init_46 (ls : Ls) (st : List Value) (z : Zz) (f : Fm) (E : Ej) (R : Kr) : Prop := xpush (.int (nI 0)) q_X1_init_47 ls st z f E R
def q_X1_init_45 (ls : Ls) (st : List Value) (z : Zz) (f : Fm) (E : Ej) (R : Kr) : Prop := xaload 0 q_X1_init_46 ls st z f E R
def q_X1_init_42 (ls : Ls) (st : List Value) (z : Zz) (f : Fm) (E : Ej) (R : Kr) : Prop := xput 1 3 (.object "FortHeralds$Letters") q_X1_init_45 ls st z f E R
def q_X1_init_39 (ls : Ls) (st : List Value) (z : Zz) (f : Fm) (E : Ej) (R : Kr) : Prop := xcall 1 5 Sp_X5_init 5 50 q_X1_init_42 ls st z f E R
def q_X1_init_38 (ls : Ls) (st : List Value) (z : Zz) (f : Fm) (E : Ej) (R : Kr) : Prop := xdup q_X1_init_39 ls st z f E R
def q_X1_init_35 (ls : Ls) (st : List Value) (z : Zz) (f : Fm) (E : Ej) (R : Kr) : Prop := xnew 4 6 [.null, .null, .null, .null, .null, .int 0] q_X1_init_38 ls st z f E R
def q_X1_init_34 (ls : Ls) (st : List Value) (z : Zz) (f : Fm) (E : Ej) (R : Kr) : Prop := xaload 0 q_X1_init_35 ls st z f E R
def q_X1_init_31 (ls : Ls) (st : List Value) (z : Zz) (f : Fm) (E : Ej) (R : Kr) : Prop := xput 1 2 (.object "FortHeralds$Routes") q_X1_init_34 ls st z f E R
def q_X1_init_28 (ls : Ls) (st : List Value) (z : Zz) (f : Fm) (E : Ej) (R : Kr) : Prop := xcall 1 9 Sp_X9_init 36 288 q_X1_init_31 ls st z f E R
def q_X1_init_27 (ls : Ls) (st : List Value) (z : Zz) (f : Fm) (E : Ej) (R : Kr) : Prop := xdup q_X1_init_28 ls st z f E R
def q_X1_init_24 (ls : Ls) (st : List Value) (z : Zz) (f : Fm) (E : Ej) (R : Kr) : Prop := xnew 8 4 [.null, .null, .null, .null] q_X1_init_27 ls st z f E R
def q_X1_init_23 (ls : Ls) (st : List Value) (z : Zz) (f : Fm) (E : Ej) (R : Kr) : Prop := xaload 0 q_X1_init_24 ls st z f E R
def q_X1_init_20 (ls : Ls) (st : List Value) (z : Zz) (f : Fm) (E : Ej) (R : Kr) : Prop := xput 1 1 (.object "FortHeralds$Roads") q_X1_init_23 ls st z f E R
def q_X1_init_17 (ls : Ls) (st : List Value) (z : Zz) (f : Fm) (E : Ej) (R : Kr) : Prop := xcall 1 8 Sp_X8_init 9 72 q_X1_init_20 ls st z f E R
def q_X1_init_16 (ls : Ls) (st : List Value) (z : Zz) (f : Fm) (E : Ej) (R : Kr) : Prop := xdup q_X1_init_17 ls st z f E R
def q_X1_init_13 (ls : Ls) (st : List Value) (z : Zz) (f : Fm) (E : Ej) (R : Kr) : Prop := xnew 7 2 [.null, .int 0] q_X1_init_16 ls st z f E R
def q_X1_init_12 (ls : Ls) (st : List Value) (z : Zz) (f : Fm) (E : Ej) (R : Kr) : Prop := xaload 0 q_X1_init_13 ls st z f E R
def q_X1_init_9 (ls : Ls) (st : List Value) (z : Zz) (f : Fm) (E : Ej) (R : Kr) : Prop := xput 1 0 (.array .boolean) q_X1_init_12 ls st z f E R
def q_X1_init_7 (ls : Ls) (st : List Value) (z : Zz) (f : Fm) (E : Ej) (R : Kr) : Prop := xnewa 2 q_X1_init_9 ls st z f E R
def q_X1_init_5 (ls : Ls) (st : List Value) (z : Zz) (f : Fm) (E : Ej) (R : Kr) : Prop := xpush (.int (nI 8)) q_X1_init_7 ls st z f E R
def q_X1_init_4 (ls : Ls) (st : List Value) (z : Zz) (f : Fm) (E : Ej) (R : Kr) : Prop := xaload 0 q_X1_init_5 ls st z f E R
def q_X1_init_1 (ls : Ls) (st : List Value) (z : Zz) (f : Fm) (E : Ej) (R : Kr) : Prop := xobj q_X1_init_4 ls st z f E R
def q_X1_init_0 (ls : Ls) (st : List Value) (z : Zz) (f : Fm) (E : Ej) (R : Kr) : Prop := xaload 0 q_X1_init_1 ls st z f E R
set_option maxRecDepth 100000 in
theorem t_X1_init {s0 : State} {D : va_G} {ids : Nat → ClassId} {V : Nat → Nat} {l : Launch} {K : Kr} {E : Ej} (G : GG s0 D ids V) (X : EnX s0 D ids l RX1 cX1_init 1 none "<init>" rm_X1_init K E) : Sd E K 0 q_X1_init_0 := by
  have h76 : Sd E K 76 q_X1_init_76 := sd_vret X (by decide +kernel : decode cX1_init 76 = .ok (.return_, 1))
  have h73 : Sd E K 73 q_X1_init_73 := sd_put X (by decide +kernel : decode cX1_init 73 = .ok (.putfield 52, 3)) ok_X1 (Nat.le_of_ble_eq_true rfl) rfl rfl wd_181 h76
  have h72 : Sd E K 72 q_X1_init_72 := sd_iconst X (by decide +kernel : decode cX1_init 72 = .ok (.iconst 0, 1)) (by decide +kernel) h73
  have h71 : Sd E K 71 q_X1_init_71 := sd_aload_n X (by decide +kernel : decode cX1_init 71 = .ok (.aload_n 0, 1)) rfl h72
  have h68 : Sd E K 68 q_X1_init_68 := sd_put X (by decide +kernel : decode cX1_init 68 = .ok (.putfield 49, 3)) ok_X1 (Nat.le_of_ble_eq_true rfl) rfl rfl wd_178 h71
  have h67 : Sd E K 67 q_X1_init_67 := sd_iconst X (by decide +kernel : decode cX1_init 67 = .ok (.iconst 0, 1)) (by decide +kernel) h68
  have h66 : Sd E K 66 q_X1_init_66 := sd_aload_n X (by decide +kernel : decode cX1_init 66 = .ok (.aload_n 0, 1)) rfl h67
  have h63 : Sd E K 63 q_X1_init_63 := sd_put X (by decide +kernel : decode cX1_init 63 = .ok (.putfield 46, 3)) ok_X1 (Nat.le_of_ble_eq_true rfl) rfl rfl wd_175 h66
  have h62 : Sd E K 62 q_X1_init_62 := sd_iconst X (by decide +kernel : decode cX1_init 62 = .ok (.iconst 0, 1)) (by decide +kernel) h63
  have h61 : Sd E K 61 q_X1_init_61 := sd_aload_n X (by decide +kernel : decode cX1_init 61 = .ok (.aload_n 0, 1)) rfl h62
  have h58 : Sd E K 58 q_X1_init_58 := sd_put X (by decide +kernel : decode cX1_init 58 = .ok (.putfield 43, 3)) ok_X1 (Nat.le_of_ble_eq_true rfl) rfl rfl wd_171 h61
  have h56 : Sd E K 56 q_X1_init_56 := sd_bipush X (by decide +kernel : decode cX1_init 56 = .ok (.bipush 8, 2)) (by decide +kernel) h58
  have h55 : Sd E K 55 q_X1_init_55 := sd_aload_n X (by decide +kernel : decode cX1_init 55 = .ok (.aload_n 0, 1)) rfl h56
  have h52 : Sd E K 52 q_X1_init_52 := sd_put X (by decide +kernel : decode cX1_init 52 = .ok (.putfield 40, 3)) ok_X1 (Nat.le_of_ble_eq_true rfl) rfl rfl wd_167 h55
  have h51 : Sd E K 51 q_X1_init_51 := sd_iconst X (by decide +kernel : decode cX1_init 51 = .ok (.iconst 0, 1)) (by decide +kernel) h52
  have h50 : Sd E K 50 q_X1_init_50 := sd_aload_n X (by decide +kernel : decode cX1_init 50 = .ok (.aload_n 0, 1)) rfl h51
  have h47 : Sd E K 47 q_X1_init_47 := sd_put X (by decide +kernel : decode cX1_init 47 = .ok (.putfield 36, 3)) ok_X1 (Nat.le_of_ble_eq_true rfl) rfl rfl wd_162 h50
  have h46 : Sd E K 46 q_X1_init_46 := sd_iconst X (by decide +kernel : decode cX1_init 46 = .ok (.iconst 0, 1)) (by decide +kernel) h47
  have h45 : Sd E K 45 q_X1_init_45 := sd_aload_n X (by decide +kernel : decode cX1_init 45 = .ok (.aload_n 0, 1)) rfl h46
  have h42 : Sd E K 42 q_X1_init_42 := sd_putF X (by decide +kernel : decode cX1_init 42 = .ok (.putfield 32, 3)) ok_X1 (Nat.le_of_ble_eq_true rfl) rfl rfl rfl wd_158 h45
  have h39 : Sd E K 39 q_X1_init_39 := sd_callIN (n := 0) (ci := 4) X (ct_X5_init G) (by decide +kernel : decode cX1_init 39 = .ok (.invokespecial 31, 3)) wd_120 (G.nest_118) wd_119 wd_29 rfl (by decide +kernel) ⟨Nat.le_of_ble_eq_true rfl, Nat.le_of_ble_eq_true rfl⟩ h42
  have h38 : Sd E K 38 q_X1_init_38 := sd_dup X (by decide +kernel : decode cX1_init 38 = .ok (.dup, 1)) h39
  have h35 : Sd E K 35 q_X1_init_35 := sd_new X (by decide +kernel : decode cX1_init 35 = .ok (.new 29, 3)) ok_X5 (by decide) wd_116 wd_117 wd_29 h38
  have h34 : Sd E K 34 q_X1_init_34 := sd_aload_n X (by decide +kernel : decode cX1_init 34 = .ok (.aload_n 0, 1)) rfl h35
  have h31 : Sd E K 31 q_X1_init_31 := sd_putF X (by decide +kernel : decode cX1_init 31 = .ok (.putfield 25, 3)) ok_X1 (Nat.le_of_ble_eq_true rfl) rfl rfl rfl wd_153 h34
  have h28 : Sd E K 28 q_X1_init_28 := sd_callIN (n := 0) (ci := 8) X (ct_X9_init G) (by decide +kernel : decode cX1_init 28 = .ok (.invokespecial 24, 3)) wd_92 (G.nest_90) wd_91 wd_28 rfl (by decide +kernel) ⟨Nat.le_of_ble_eq_true rfl, Nat.le_of_ble_eq_true rfl⟩ h31
  have h27 : Sd E K 27 q_X1_init_27 := sd_dup X (by decide +kernel : decode cX1_init 27 = .ok (.dup, 1)) h28
  have h24 : Sd E K 24 q_X1_init_24 := sd_new X (by decide +kernel : decode cX1_init 24 = .ok (.new 22, 3)) ok_X9 (by decide) wd_88 wd_89 wd_28 h27
  have h23 : Sd E K 23 q_X1_init_23 := sd_aload_n X (by decide +kernel : decode cX1_init 23 = .ok (.aload_n 0, 1)) rfl h24
  have h20 : Sd E K 20 q_X1_init_20 := sd_putF X (by decide +kernel : decode cX1_init 20 = .ok (.putfield 18, 3)) ok_X1 (Nat.le_of_ble_eq_true rfl) rfl rfl rfl wd_147 h23
  have h17 : Sd E K 17 q_X1_init_17 := sd_callIN (n := 0) (ci := 7) X (ct_X8_init G) (by decide +kernel : decode cX1_init 17 = .ok (.invokespecial 17, 3)) wd_73 (G.nest_71) wd_72 wd_27 rfl (by decide +kernel) ⟨Nat.le_of_ble_eq_true rfl, Nat.le_of_ble_eq_true rfl⟩ h20
  have h16 : Sd E K 16 q_X1_init_16 := sd_dup X (by decide +kernel : decode cX1_init 16 = .ok (.dup, 1)) h17
  have h13 : Sd E K 13 q_X1_init_13 := sd_new X (by decide +kernel : decode cX1_init 13 = .ok (.new 15, 3)) ok_X8 (by decide) wd_69 wd_70 wd_27 h16
  have h12 : Sd E K 12 q_X1_init_12 := sd_aload_n X (by decide +kernel : decode cX1_init 12 = .ok (.aload_n 0, 1)) rfl h13
  have h9 : Sd E K 9 q_X1_init_9 := sd_putF X (by decide +kernel : decode cX1_init 9 = .ok (.putfield 9, 3)) ok_X1 (Nat.le_of_ble_eq_true rfl) rfl rfl rfl wd_143 h12
  have h7 : Sd E K 7 q_X1_init_7 := sd_newa X (Nat.le_of_ble_eq_true rfl) rfl rfl (by decide) (by decide +kernel : decode cX1_init 7 = .ok (.newarray .boolean, 2)) wd_86 (G.nm2) h9
  have h5 : Sd E K 5 q_X1_init_5 := sd_bipush X (by decide +kernel : decode cX1_init 5 = .ok (.bipush 8, 2)) (by decide +kernel) h7
  have h4 : Sd E K 4 q_X1_init_4 := sd_aload_n X (by decide +kernel : decode cX1_init 4 = .ok (.aload_n 0, 1)) rfl h5
  have h1 : Sd E K 1 q_X1_init_1 := sd_obj X (by decide +kernel : decode cX1_init 1 = .ok (.invokespecial 3, 3)) wd_68 (Nat.le_of_ble_eq_true rfl) (Nat.le_of_ble_eq_true rfl) h4
  have h0 : Sd E K 0 q_X1_init_0 := sd_aload_n X (by decide +kernel : decode cX1_init 0 = .ok (.aload_n 0, 1)) rfl h1
  exact h0
set_option maxHeartbeats 4000000 in
set_option maxRecDepth 100000 in
theorem ct_X1_init {s0 : State} {D : va_G} {ids : Nat → ClassId} {V : Nat → Nat} {l : Launch} (G : GG s0 D ids V) : CT s0 D ids l yX1_init cX1_init 1 none rm_X1_init Sp_X1_init := CT.of (by decide +kernel) G.k (by
  rintro as z f K E ⟨a, rfl, rfl, h1, hK⟩ X
  refine ⟨Nat.le_of_ble_eq_true rfl, by simp [Value.category], t_X1_init G X _ _ _ _ ?_⟩
  simp (disch := omega) only [q_X1_init_0, q_X1_init_1, q_X1_init_4, q_X1_init_5, q_X1_init_7, q_X1_init_9, q_X1_init_12, q_X1_init_13, q_X1_init_16, q_X1_init_17, q_X1_init_20, q_X1_init_23, q_X1_init_24, q_X1_init_27, q_X1_init_28, q_X1_init_31, q_X1_init_34, q_X1_init_35, q_X1_init_38, q_X1_init_39, q_X1_init_42, q_X1_init_45, q_X1_init_46, q_X1_init_47, q_X1_init_50, q_X1_init_51, q_X1_init_52, q_X1_init_55, q_X1_init_56, q_X1_init_58, q_X1_init_61, q_X1_init_62, q_X1_init_63, q_X1_init_66, q_X1_init_67, q_X1_init_68, q_X1_init_71, q_X1_init_72, q_X1_init_73, q_X1_init_76, xpush, xiload, xaload, xlload, xfload, xdload, lkill, xistore, xastore, xfstore, xlstore, xdstore, xiinc, xbin, xdiv, xun, xlbin, xi2l, xi2f, xi2d, xlcmp, xfcmp, xdcmp, xfdiv, xddiv, c1, xdup, xpop, xdup_x1, xdup2, xif, xicmp, xtab, xtabL, xget, xput, xald, xast, xalen, xnew, xnewa, c1s, recvOk, xcall, kont, xret, xlret, xfret, xdret, xaret, xvret, xs, xnewq, xastq, xcopy, xcopyF, xobj, xmax, xmin, xdead, xpushq, xmna, ls0, List.map_cons, List.map_nil, List.length_cons, List.length_nil, List.replicate, List.append_nil, List.cons_append, List.nil_append, List.getElem?_cons_zero, List.getElem?_cons_succ, List.getElem?_nil, List.set_cons_zero, List.set_cons_succ, List.take_succ_cons, List.take_zero, List.drop_succ_cons, List.drop_zero, List.reverse_cons, List.reverse_nil, List.sum_cons, List.sum_nil, Value.category, Option.toList_some, Option.toList_none, Nat.reduceAdd, Nat.reduceSub, Nat.reduceLT, Nat.reduceLeDiff, Nat.zero_add, Nat.le_refl, true_and, and_true, Nat.sub_zero, Nat.zero_lt_succ, Nat.zero_le, Nat.not_lt_zero, Nat.reduceEqDiff, Nat.one_ne_zero, nI_toInt, Int.reduceEq, Int.reduceAdd, Int.reduceLT, Int.reduceLE, Int.cast_ofNat_Int, reduceIte, or_false, false_or, eq_self, or_true, true_or, or_self, nI_clamp, vp_in_nI, nI_ltI, nI_leI, nI_eq, nI_add, nI_zero9, nI_nlt0, nI_le0, nI_lt0, arG, va_rf, not_false_eq_true, not_true_eq_false, false_implies, true_implies, implies_true, ne_eq, okv_int, okv_z0, okv_z1, okv_zN, okv_ref, okv_arr, okv_null, vn_z0, vn_z1, vn_zN, nr_int, nr_z, va_up_self, up_fr, rw1_j, rw1_up, h1]
  refine ⟨Nat.le_of_ble_eq_true rfl, Nat.le_of_ble_eq_true rfl, Nat.le_of_ble_eq_true rfl, Nat.le_of_ble_eq_true rfl, Nat.le_of_ble_eq_true rfl, Nat.le_of_ble_eq_true rfl, ?_⟩
  refine ⟨a + 1 + 1, rfl, rfl, va_up_self _ _ _, fun f1 g1 fr1 => ?_⟩
  have b1 := fr1 a (by omega)
  have s1 := fr1 (a + 1) (by omega)
  have o1 : ∀ q, q < a → f1 q = f q := fun q hq => (fr1 q (by omega)).trans (by simp (disch := omega) only [up_fr])
  simp (disch := omega) only [up_fr, va_up_self] at b1 s1
  clear fr1
  simp (disch := omega) only [q_X1_init_0, q_X1_init_1, q_X1_init_4, q_X1_init_5, q_X1_init_7, q_X1_init_9, q_X1_init_12, q_X1_init_13, q_X1_init_16, q_X1_init_17, q_X1_init_20, q_X1_init_23, q_X1_init_24, q_X1_init_27, q_X1_init_28, q_X1_init_31, q_X1_init_34, q_X1_init_35, q_X1_init_38, q_X1_init_39, q_X1_init_42, q_X1_init_45, q_X1_init_46, q_X1_init_47, q_X1_init_50, q_X1_init_51, q_X1_init_52, q_X1_init_55, q_X1_init_56, q_X1_init_58, q_X1_init_61, q_X1_init_62, q_X1_init_63, q_X1_init_66, q_X1_init_67, q_X1_init_68, q_X1_init_71, q_X1_init_72, q_X1_init_73, q_X1_init_76, xpush, xiload, xaload, xlload, xfload, xdload, lkill, xistore, xastore, xfstore, xlstore, xdstore, xiinc, xbin, xdiv, xun, xlbin, xi2l, xi2f, xi2d, xlcmp, xfcmp, xdcmp, xfdiv, xddiv, c1, xdup, xpop, xdup_x1, xdup2, xif, xicmp, xtab, xtabL, xget, xput, xald, xast, xalen, xnew, xnewa, c1s, recvOk, xcall, kont, xret, xlret, xfret, xdret, xaret, xvret, xs, xnewq, xastq, xcopy, xcopyF, xobj, xmax, xmin, xdead, xpushq, xmna, ls0, List.map_cons, List.map_nil, List.length_cons, List.length_nil, List.replicate, List.append_nil, List.cons_append, List.nil_append, List.getElem?_cons_zero, List.getElem?_cons_succ, List.getElem?_nil, List.set_cons_zero, List.set_cons_succ, List.take_succ_cons, List.take_zero, List.drop_succ_cons, List.drop_zero, List.reverse_cons, List.reverse_nil, List.sum_cons, List.sum_nil, Value.category, Option.toList_some, Option.toList_none, Nat.reduceAdd, Nat.reduceSub, Nat.reduceLT, Nat.reduceLeDiff, Nat.zero_add, Nat.le_refl, true_and, and_true, Nat.sub_zero, Nat.zero_lt_succ, Nat.zero_le, Nat.not_lt_zero, Nat.reduceEqDiff, Nat.one_ne_zero, nI_toInt, Int.reduceEq, Int.reduceAdd, Int.reduceLT, Int.reduceLE, Int.cast_ofNat_Int, reduceIte, or_false, false_or, eq_self, or_true, true_or, or_self, nI_clamp, vp_in_nI, nI_ltI, nI_leI, nI_eq, nI_add, nI_zero9, nI_nlt0, nI_le0, nI_lt0, arG, va_rf, not_false_eq_true, not_true_eq_false, false_implies, true_implies, implies_true, ne_eq, okv_int, okv_z0, okv_z1, okv_zN, okv_ref, okv_arr, okv_null, vn_z0, vn_z1, vn_zN, nr_int, nr_z, va_up_self, up_fr, rw1_j, rw1_up, b1]
  refine ⟨Nat.le_of_ble_eq_true rfl, Nat.le_of_ble_eq_true rfl, Nat.le_of_ble_eq_true rfl, Nat.le_of_ble_eq_true rfl, ?_⟩
  refine ⟨a + 12, rfl, rfl, va_up_self _ _ _, fun f2 g2 fr2 => ?_⟩
  have b2 := fr2 a (by omega)
  have s2 := (fr2 (a + 1) (by omega)).trans (by simp (disch := omega) only [up_fr]; exact s1)
  have r2 : isRd f2 (a + 1 + 1) cmN := g1.fr (fun q h1 h2 => (fr2 q (by omega)).trans (by simp (disch := omega) only [up_fr]))
  have o2 : ∀ q, q < a → f2 q = f q := fun q hq => (fr2 q (by omega)).trans (by simp (disch := omega) only [up_fr]; exact o1 q hq)
  simp (disch := omega) only [up_fr, va_up_self] at b2
  clear fr2 o1 g1 s1 b1
  simp (disch := omega) only [q_X1_init_0, q_X1_init_1, q_X1_init_4, q_X1_init_5, q_X1_init_7, q_X1_init_9, q_X1_init_12, q_X1_init_13, q_X1_init_16, q_X1_init_17, q_X1_init_20, q_X1_init_23, q_X1_init_24, q_X1_init_27, q_X1_init_28, q_X1_init_31, q_X1_init_34, q_X1_init_35, q_X1_init_38, q_X1_init_39, q_X1_init_42, q_X1_init_45, q_X1_init_46, q_X1_init_47, q_X1_init_50, q_X1_init_51, q_X1_init_52, q_X1_init_55, q_X1_init_56, q_X1_init_58, q_X1_init_61, q_X1_init_62, q_X1_init_63, q_X1_init_66, q_X1_init_67, q_X1_init_68, q_X1_init_71, q_X1_init_72, q_X1_init_73, q_X1_init_76, xpush, xiload, xaload, xlload, xfload, xdload, lkill, xistore, xastore, xfstore, xlstore, xdstore, xiinc, xbin, xdiv, xun, xlbin, xi2l, xi2f, xi2d, xlcmp, xfcmp, xdcmp, xfdiv, xddiv, c1, xdup, xpop, xdup_x1, xdup2, xif, xicmp, xtab, xtabL, xget, xput, xald, xast, xalen, xnew, xnewa, c1s, recvOk, xcall, kont, xret, xlret, xfret, xdret, xaret, xvret, xs, xnewq, xastq, xcopy, xcopyF, xobj, xmax, xmin, xdead, xpushq, xmna, ls0, List.map_cons, List.map_nil, List.length_cons, List.length_nil, List.replicate, List.append_nil, List.cons_append, List.nil_append, List.getElem?_cons_zero, List.getElem?_cons_succ, List.getElem?_nil, List.set_cons_zero, List.set_cons_succ, List.take_succ_cons, List.take_zero, List.drop_succ_cons, List.drop_zero, List.reverse_cons, List.reverse_nil, List.sum_cons, List.sum_nil, Value.category, Option.toList_some, Option.toList_none, Nat.reduceAdd, Nat.reduceSub, Nat.reduceLT, Nat.reduceLeDiff, Nat.zero_add, Nat.le_refl, true_and, and_true, Nat.sub_zero, Nat.zero_lt_succ, Nat.zero_le, Nat.not_lt_zero, Nat.reduceEqDiff, Nat.one_ne_zero, nI_toInt, Int.reduceEq, Int.reduceAdd, Int.reduceLT, Int.reduceLE, Int.cast_ofNat_Int, reduceIte, or_false, false_or, eq_self, or_true, true_or, or_self, nI_clamp, vp_in_nI, nI_ltI, nI_leI, nI_eq, nI_add, nI_zero9, nI_nlt0, nI_le0, nI_lt0, arG, va_rf, not_false_eq_true, not_true_eq_false, false_implies, true_implies, implies_true, ne_eq, okv_int, okv_z0, okv_z1, okv_zN, okv_ref, okv_arr, okv_null, vn_z0, vn_z1, vn_zN, nr_int, nr_z, va_up_self, up_fr, rw1_j, rw1_up, b2]
  refine ⟨Nat.le_of_ble_eq_true rfl, Nat.le_of_ble_eq_true rfl, Nat.le_of_ble_eq_true rfl, Nat.le_of_ble_eq_true rfl, ?_⟩
  refine ⟨a + 49, rfl, rfl, va_up_self _ _ _, fun f3 g3 fr3 => ?_⟩
  have b3 := fr3 a (by omega)
  have s3 := (fr3 (a + 1) (by omega)).trans (by simp (disch := omega) only [up_fr]; exact s2)
  have r3 : isRd f3 (a + 1 + 1) cmN := r2.fr (fun q h1 h2 => (fr3 q (by omega)).trans (by simp (disch := omega) only [up_fr]))
  have t3 : isRt f3 (a + 12) cmN := g2.fr (fun q h1 h2 => (fr3 q (by omega)).trans (by simp (disch := omega) only [up_fr]))
  have o3 : ∀ q, q < a → f3 q = f q := fun q hq => (fr3 q (by omega)).trans (by simp (disch := omega) only [up_fr]; exact o2 q hq)
  simp (disch := omega) only [up_fr, va_up_self] at b3
  clear fr3 o2 r2 g2 s2 b2
  simp (disch := omega) only [q_X1_init_0, q_X1_init_1, q_X1_init_4, q_X1_init_5, q_X1_init_7, q_X1_init_9, q_X1_init_12, q_X1_init_13, q_X1_init_16, q_X1_init_17, q_X1_init_20, q_X1_init_23, q_X1_init_24, q_X1_init_27, q_X1_init_28, q_X1_init_31, q_X1_init_34, q_X1_init_35, q_X1_init_38, q_X1_init_39, q_X1_init_42, q_X1_init_45, q_X1_init_46, q_X1_init_47, q_X1_init_50, q_X1_init_51, q_X1_init_52, q_X1_init_55, q_X1_init_56, q_X1_init_58, q_X1_init_61, q_X1_init_62, q_X1_init_63, q_X1_init_66, q_X1_init_67, q_X1_init_68, q_X1_init_71, q_X1_init_72, q_X1_init_73, q_X1_init_76, xpush, xiload, xaload, xlload, xfload, xdload, lkill, xistore, xastore, xfstore, xlstore, xdstore, xiinc, xbin, xdiv, xun, xlbin, xi2l, xi2f, xi2d, xlcmp, xfcmp, xdcmp, xfdiv, xddiv, c1, xdup, xpop, xdup_x1, xdup2, xif, xicmp, xtab, xtabL, xget, xput, xald, xast, xalen, xnew, xnewa, c1s, recvOk, xcall, kont, xret, xlret, xfret, xdret, xaret, xvret, xs, xnewq, xastq, xcopy, xcopyF, xobj, xmax, xmin, xdead, xpushq, xmna, ls0, List.map_cons, List.map_nil, List.length_cons, List.length_nil, List.replicate, List.append_nil, List.cons_append, List.nil_append, List.getElem?_cons_zero, List.getElem?_cons_succ, List.getElem?_nil, List.set_cons_zero, List.set_cons_succ, List.take_succ_cons, List.take_zero, List.drop_succ_cons, List.drop_zero, List.reverse_cons, List.reverse_nil, List.sum_cons, List.sum_nil, Value.category, Option.toList_some, Option.toList_none, Nat.reduceAdd, Nat.reduceSub, Nat.reduceLT, Nat.reduceLeDiff, Nat.zero_add, Nat.le_refl, true_and, and_true, Nat.sub_zero, Nat.zero_lt_succ, Nat.zero_le, Nat.not_lt_zero, Nat.reduceEqDiff, Nat.one_ne_zero, nI_toInt, Int.reduceEq, Int.reduceAdd, Int.reduceLT, Int.reduceLE, Int.cast_ofNat_Int, reduceIte, or_false, false_or, eq_self, or_true, true_or, or_self, nI_clamp, vp_in_nI, nI_ltI, nI_leI, nI_eq, nI_add, nI_zero9, nI_nlt0, nI_le0, nI_lt0, arG, va_rf, not_false_eq_true, not_true_eq_false, false_implies, true_implies, implies_true, ne_eq, okv_int, okv_z0, okv_z1, okv_zN, okv_ref, okv_arr, okv_null, vn_z0, vn_z1, vn_zN, nr_int, nr_z, va_up_self, up_fr, rw1_j, rw1_up, b3]
  refine hK _ ⟨va_up_self _ _ _, ?_, ?_, ?_, ?_⟩ (fun q hq => by simp (disch := omega) only [up_fr]; exact o3 q hq)
  · simp (disch := omega) only [up_fr]
    exact s3
  · exact r3.fr (fun q h1 h2 => by simp (disch := omega) only [up_fr])
  · exact t3.fr (fun q h1 h2 => by simp (disch := omega) only [up_fr])
  · exact g3.fr (fun q h1 h2 => by simp (disch := omega) only [up_fr]))
abbrev Sp_X3_init : Spt := fun as z f K => ∃ (a : Nat), as = [.ref a] ∧ z = a + 1 ∧ f a = some (.inr (3, [.null])) ∧ ∀ f', isHd f' a cmN → (∀ q, q < a → f' q = f q) → K none (a + 38) f'
def rm_X3_init : Room := { frames := 2, cells := 37, slots := 292, locals := 40 }
def q_X3_init_15 (ls : Ls) (st : List Value) (z : Zz) (f : Fm) (E : Ej) (R : Kr) : Prop := xvret ls st z f E R
def q_X3_init_12 (ls : Ls) (st : List Value) (z : Zz) (f : Fm) (E : Ej) (R : Kr) : Prop := xput 3 0 (.object "FortHeralds$Routes") q_X3_init_15 ls st z f E R
def q_X3_init_9 (ls : Ls) (st : List Value) (z : Zz) (f : Fm) (E : Ej) (R : Kr) : Prop := xcall 1 9 Sp_X9_init 36 288 q_X3_init_12 ls st z f E R
def q_X3_init_8 (ls : Ls) (st : List Value) (z : Zz) (f : Fm) (E : Ej) (R : Kr) : Prop := xdup q_X3_init_9 ls st z f E R
def q_X3_init_5 (ls : Ls) (st : List Value) (z : Zz) (f : Fm) (E : Ej) (R : Kr) : Prop := xnew 8 4 [.null, .null, .null, .null] q_X3_init_8 ls st z f E R
def q_X3_init_4 (ls : Ls) (st : List Value) (z : Zz) (f : Fm) (E : Ej) (R : Kr) : Prop := xaload 0 q_X3_init_5 ls st z f E R
def q_X3_init_1 (ls : Ls) (st : List Value) (z : Zz) (f : Fm) (E : Ej) (R : Kr) : Prop := xobj q_X3_init_4 ls st z f E R
def q_X3_init_0 (ls : Ls) (st : List Value) (z : Zz) (f : Fm) (E : Ej) (R : Kr) : Prop := xaload 0 q_X3_init_1 ls st z f E R
set_option maxRecDepth 100000 in
theorem t_X3_init {s0 : State} {D : va_G} {ids : Nat → ClassId} {V : Nat → Nat} {l : Launch} {K : Kr} {E : Ej} (G : GG s0 D ids V) (X : EnX s0 D ids l RX3 cX3_init 1 none "<init>" rm_X3_init K E) : Sd E K 0 q_X3_init_0 := by
  have h15 : Sd E K 15 q_X3_init_15 := sd_vret X (by decide +kernel : decode cX3_init 15 = .ok (.return_, 1))
  have h12 : Sd E K 12 q_X3_init_12 := sd_putF X (by decide +kernel : decode cX3_init 12 = .ok (.putfield 12, 3)) ok_X3 (Nat.le_of_ble_eq_true rfl) rfl rfl rfl wd_213 h15
  have h9 : Sd E K 9 q_X3_init_9 := sd_callIN (n := 0) (ci := 8) X (ct_X9_init G) (by decide +kernel : decode cX3_init 9 = .ok (.invokespecial 11, 3)) wd_92 (G.nest_212) wd_91 wd_28 rfl (by decide +kernel) ⟨Nat.le_of_ble_eq_true rfl, Nat.le_of_ble_eq_true rfl⟩ h12
  have h8 : Sd E K 8 q_X3_init_8 := sd_dup X (by decide +kernel : decode cX3_init 8 = .ok (.dup, 1)) h9
  have h5 : Sd E K 5 q_X3_init_5 := sd_new X (by decide +kernel : decode cX3_init 5 = .ok (.new 9, 3)) ok_X9 (by decide) wd_211 wd_89 wd_28 h8
  have h4 : Sd E K 4 q_X3_init_4 := sd_aload_n X (by decide +kernel : decode cX3_init 4 = .ok (.aload_n 0, 1)) rfl h5
  have h1 : Sd E K 1 q_X3_init_1 := sd_obj X (by decide +kernel : decode cX3_init 1 = .ok (.invokespecial 3, 3)) wd_210 (Nat.le_of_ble_eq_true rfl) (Nat.le_of_ble_eq_true rfl) h4
  have h0 : Sd E K 0 q_X3_init_0 := sd_aload_n X (by decide +kernel : decode cX3_init 0 = .ok (.aload_n 0, 1)) rfl h1
  exact h0
set_option maxHeartbeats 4000000 in
set_option maxRecDepth 100000 in
theorem ct_X3_init {s0 : State} {D : va_G} {ids : Nat → ClassId} {V : Nat → Nat} {l : Launch} (G : GG s0 D ids V) : CT s0 D ids l yX3_init cX3_init 1 none rm_X3_init Sp_X3_init := CT.of (by decide +kernel) G.k (by
  rintro as z f K E ⟨a, rfl, rfl, h1, hK⟩ X
  refine ⟨Nat.le_of_ble_eq_true rfl, by simp [Value.category], t_X3_init G X _ _ _ _ ?_⟩
  simp (disch := omega) only [q_X3_init_0, q_X3_init_1, q_X3_init_4, q_X3_init_5, q_X3_init_8, q_X3_init_9, q_X3_init_12, q_X3_init_15, xpush, xiload, xaload, xlload, xfload, xdload, lkill, xistore, xastore, xfstore, xlstore, xdstore, xiinc, xbin, xdiv, xun, xlbin, xi2l, xi2f, xi2d, xlcmp, xfcmp, xdcmp, xfdiv, xddiv, c1, xdup, xpop, xdup_x1, xdup2, xif, xicmp, xtab, xtabL, xget, xput, xald, xast, xalen, xnew, xnewa, c1s, recvOk, xcall, kont, xret, xlret, xfret, xdret, xaret, xvret, xs, xnewq, xastq, xcopy, xcopyF, xobj, xmax, xmin, xdead, xpushq, xmna, ls0, List.map_cons, List.map_nil, List.length_cons, List.length_nil, List.replicate, List.append_nil, List.cons_append, List.nil_append, List.getElem?_cons_zero, List.getElem?_cons_succ, List.getElem?_nil, List.set_cons_zero, List.set_cons_succ, List.take_succ_cons, List.take_zero, List.drop_succ_cons, List.drop_zero, List.reverse_cons, List.reverse_nil, List.sum_cons, List.sum_nil, Value.category, Option.toList_some, Option.toList_none, Nat.reduceAdd, Nat.reduceSub, Nat.reduceLT, Nat.reduceLeDiff, Nat.zero_add, Nat.le_refl, true_and, and_true, Nat.sub_zero, Nat.zero_lt_succ, Nat.zero_le, Nat.not_lt_zero, Nat.reduceEqDiff, Nat.one_ne_zero, nI_toInt, Int.reduceEq, Int.reduceAdd, Int.reduceLT, Int.reduceLE, Int.cast_ofNat_Int, reduceIte, or_false, false_or, eq_self, or_true, true_or, or_self, nI_clamp, vp_in_nI, nI_ltI, nI_leI, nI_eq, nI_add, nI_zero9, nI_nlt0, nI_le0, nI_lt0, arG, va_rf, not_false_eq_true, not_true_eq_false, false_implies, true_implies, implies_true, ne_eq, okv_int, okv_z0, okv_z1, okv_zN, okv_ref, okv_arr, okv_null, vn_z0, vn_z1, vn_zN, nr_int, nr_z, va_up_self, up_fr, rw1_j, rw1_up, h1]
  refine ⟨Nat.le_of_ble_eq_true rfl, Nat.le_of_ble_eq_true rfl, Nat.le_of_ble_eq_true rfl, Nat.le_of_ble_eq_true rfl, ?_⟩
  refine ⟨a + 1, rfl, rfl, va_up_self _ _ _, fun f1 g1 fr1 => ?_⟩
  have b1 := fr1 a (by omega)
  simp (disch := omega) only [up_fr, va_up_self, h1] at b1
  simp (disch := omega) only [q_X3_init_0, q_X3_init_1, q_X3_init_4, q_X3_init_5, q_X3_init_8, q_X3_init_9, q_X3_init_12, q_X3_init_15, xpush, xiload, xaload, xlload, xfload, xdload, lkill, xistore, xastore, xfstore, xlstore, xdstore, xiinc, xbin, xdiv, xun, xlbin, xi2l, xi2f, xi2d, xlcmp, xfcmp, xdcmp, xfdiv, xddiv, c1, xdup, xpop, xdup_x1, xdup2, xif, xicmp, xtab, xtabL, xget, xput, xald, xast, xalen, xnew, xnewa, c1s, recvOk, xcall, kont, xret, xlret, xfret, xdret, xaret, xvret, xs, xnewq, xastq, xcopy, xcopyF, xobj, xmax, xmin, xdead, xpushq, xmna, ls0, List.map_cons, List.map_nil, List.length_cons, List.length_nil, List.replicate, List.append_nil, List.cons_append, List.nil_append, List.getElem?_cons_zero, List.getElem?_cons_succ, List.getElem?_nil, List.set_cons_zero, List.set_cons_succ, List.take_succ_cons, List.take_zero, List.drop_succ_cons, List.drop_zero, List.reverse_cons, List.reverse_nil, List.sum_cons, List.sum_nil, Value.category, Option.toList_some, Option.toList_none, Nat.reduceAdd, Nat.reduceSub, Nat.reduceLT, Nat.reduceLeDiff, Nat.zero_add, Nat.le_refl, true_and, and_true, Nat.sub_zero, Nat.zero_lt_succ, Nat.zero_le, Nat.not_lt_zero, Nat.reduceEqDiff, Nat.one_ne_zero, nI_toInt, Int.reduceEq, Int.reduceAdd, Int.reduceLT, Int.reduceLE, Int.cast_ofNat_Int, reduceIte, or_false, false_or, eq_self, or_true, true_or, or_self, nI_clamp, vp_in_nI, nI_ltI, nI_leI, nI_eq, nI_add, nI_zero9, nI_nlt0, nI_le0, nI_lt0, arG, va_rf, not_false_eq_true, not_true_eq_false, false_implies, true_implies, implies_true, ne_eq, okv_int, okv_z0, okv_z1, okv_zN, okv_ref, okv_arr, okv_null, vn_z0, vn_z1, vn_zN, nr_int, nr_z, va_up_self, up_fr, rw1_j, rw1_up, b1]
  exact hK _ ⟨va_up_self _ _ _, g1.fr (fun q h1 h2 => by simp (disch := omega) only [up_fr])⟩ (fun q hq => by simp (disch := omega) only [up_fr]; exact (fr1 q (by omega)).trans (up_fr (by omega))))
abbrev Sp_X11_init : Spt := fun as z f K => ∃ (a : Nat), as = [.ref a] ∧ z = a + 1 ∧ f a = some (.inr (10, [.null, .null, .int (nI 0), .int (nI 0)])) ∧ ∀ f', isWk f' a cmN cmN (-15) (-15) → (∀ q, q < a → f' q = f q) → K none (a + 94) f'
def rm_X11_init : Room := { frames := 3, cells := 93, slots := 733, locals := 60 }
def q_X11_init_38 (ls : Ls) (st : List Value) (z : Zz) (f : Fm) (E : Ej) (R : Kr) : Prop := xvret ls st z f E R
def q_X11_init_35 (ls : Ls) (st : List Value) (z : Zz) (f : Fm) (E : Ej) (R : Kr) : Prop := xput 10 3 .int q_X11_init_38 ls st z f E R
def q_X11_init_33 (ls : Ls) (st : List Value) (z : Zz) (f : Fm) (E : Ej) (R : Kr) : Prop := xpush (.int (-15)) q_X11_init_35 ls st z f E R
def q_X11_init_32 (ls : Ls) (st : List Value) (z : Zz) (f : Fm) (E : Ej) (R : Kr) : Prop := xaload 0 q_X11_init_33 ls st z f E R
def q_X11_init_29 (ls : Ls) (st : List Value) (z : Zz) (f : Fm) (E : Ej) (R : Kr) : Prop := xput 10 2 .int q_X11_init_32 ls st z f E R
def q_X11_init_27 (ls : Ls) (st : List Value) (z : Zz) (f : Fm) (E : Ej) (R : Kr) : Prop := xpush (.int (-15)) q_X11_init_29 ls st z f E R
def q_X11_init_26 (ls : Ls) (st : List Value) (z : Zz) (f : Fm) (E : Ej) (R : Kr) : Prop := xaload 0 q_X11_init_27 ls st z f E R
def q_X11_init_23 (ls : Ls) (st : List Value) (z : Zz) (f : Fm) (E : Ej) (R : Kr) : Prop := xput 10 1 (.object "FortHeralds$Heralds") q_X11_init_26 ls st z f E R
def q_X11_init_20 (ls : Ls) (st : List Value) (z : Zz) (f : Fm) (E : Ej) (R : Kr) : Prop := xcall 1 4 Sp_X3_init 37 292 q_X11_init_23 ls st z f E R
def q_X11_init_19 (ls : Ls) (st : List Value) (z : Zz) (f : Fm) (E : Ej) (R : Kr) : Prop := xdup q_X11_init_20 ls st z f E R
def q_X11_init_16 (ls : Ls) (st : List Value) (z : Zz) (f : Fm) (E : Ej) (R : Kr) : Prop := xnew 3 1 [.null] q_X11_init_19 ls st z f E R
def q_X11_init_15 (ls : Ls) (st : List Value) (z : Zz) (f : Fm) (E : Ej) (R : Kr) : Prop := xaload 0 q_X11_init_16 ls st z f E R
def q_X11_init_12 (ls : Ls) (st : List Value) (z : Zz) (f : Fm) (E : Ej) (R : Kr) : Prop := xput 10 0 (.object "FortHeralds$Country") q_X11_init_15 ls st z f E R
def q_X11_init_9 (ls : Ls) (st : List Value) (z : Zz) (f : Fm) (E : Ej) (R : Kr) : Prop := xcall 1 2 Sp_X1_init 54 430 q_X11_init_12 ls st z f E R
def q_X11_init_8 (ls : Ls) (st : List Value) (z : Zz) (f : Fm) (E : Ej) (R : Kr) : Prop := xdup q_X11_init_9 ls st z f E R
def q_X11_init_5 (ls : Ls) (st : List Value) (z : Zz) (f : Fm) (E : Ej) (R : Kr) : Prop := xnew 1 10 [.null, .null, .null, .null, .int 0, .int 0, .int 0, .int 0, .int 0, .int 0] q_X11_init_8 ls st z f E R
def q_X11_init_4 (ls : Ls) (st : List Value) (z : Zz) (f : Fm) (E : Ej) (R : Kr) : Prop := xaload 0 q_X11_init_5 ls st z f E R
def q_X11_init_1 (ls : Ls) (st : List Value) (z : Zz) (f : Fm) (E : Ej) (R : Kr) : Prop := xobj q_X11_init_4 ls st z f E R
def q_X11_init_0 (ls : Ls) (st : List Value) (z : Zz) (f : Fm) (E : Ej) (R : Kr) : Prop := xaload 0 q_X11_init_1 ls st z f E R
set_option maxRecDepth 100000 in
theorem t_X11_init {s0 : State} {D : va_G} {ids : Nat → ClassId} {V : Nat → Nat} {l : Launch} {K : Kr} {E : Ej} (G : GG s0 D ids V) (X : EnX s0 D ids l RX11 cX11_init 1 none "<init>" rm_X11_init K E) : Sd E K 0 q_X11_init_0 := by
  have h38 : Sd E K 38 q_X11_init_38 := sd_vret X (by decide +kernel : decode cX11_init 38 = .ok (.return_, 1))
  have h35 : Sd E K 35 q_X11_init_35 := sd_put X (by decide +kernel : decode cX11_init 35 = .ok (.putfield 29, 3)) ok_X11 (Nat.le_of_ble_eq_true rfl) rfl rfl wd_223 h38
  have h33 : Sd E K 33 q_X11_init_33 := sd_bipush X (by decide +kernel : decode cX11_init 33 = .ok (.bipush (-15), 2)) (by decide +kernel) h35
  have h32 : Sd E K 32 q_X11_init_32 := sd_aload_n X (by decide +kernel : decode cX11_init 32 = .ok (.aload_n 0, 1)) rfl h33
  have h29 : Sd E K 29 q_X11_init_29 := sd_put X (by decide +kernel : decode cX11_init 29 = .ok (.putfield 25, 3)) ok_X11 (Nat.le_of_ble_eq_true rfl) rfl rfl wd_221 h32
  have h27 : Sd E K 27 q_X11_init_27 := sd_bipush X (by decide +kernel : decode cX11_init 27 = .ok (.bipush (-15), 2)) (by decide +kernel) h29
  have h26 : Sd E K 26 q_X11_init_26 := sd_aload_n X (by decide +kernel : decode cX11_init 26 = .ok (.aload_n 0, 1)) rfl h27
  have h23 : Sd E K 23 q_X11_init_23 := sd_putF X (by decide +kernel : decode cX11_init 23 = .ok (.putfield 21, 3)) ok_X11 (Nat.le_of_ble_eq_true rfl) rfl rfl rfl wd_219 h26
  have h20 : Sd E K 20 q_X11_init_20 := sd_callIN (n := 0) (ci := 3) X (ct_X3_init G) (by decide +kernel : decode cX11_init 20 = .ok (.invokespecial 20, 3)) wd_209 (G.nest_207) wd_208 wd_30 rfl (by decide +kernel) ⟨Nat.le_of_ble_eq_true rfl, Nat.le_of_ble_eq_true rfl⟩ h23
  have h19 : Sd E K 19 q_X11_init_19 := sd_dup X (by decide +kernel : decode cX11_init 19 = .ok (.dup, 1)) h20
  have h16 : Sd E K 16 q_X11_init_16 := sd_new X (by decide +kernel : decode cX11_init 16 = .ok (.new 18, 3)) ok_X3 (by decide) wd_205 wd_206 wd_30 h19
  have h15 : Sd E K 15 q_X11_init_15 := sd_aload_n X (by decide +kernel : decode cX11_init 15 = .ok (.aload_n 0, 1)) rfl h16
  have h12 : Sd E K 12 q_X11_init_12 := sd_putF X (by decide +kernel : decode cX11_init 12 = .ok (.putfield 12, 3)) ok_X11 (Nat.le_of_ble_eq_true rfl) rfl rfl rfl wd_217 h15
  have h9 : Sd E K 9 q_X11_init_9 := sd_callIN (n := 0) (ci := 1) X (ct_X1_init G) (by decide +kernel : decode cX11_init 9 = .ok (.invokespecial 11, 3)) wd_67 (G.nest_65) wd_66 wd_26 rfl (by decide +kernel) ⟨Nat.le_of_ble_eq_true rfl, Nat.le_of_ble_eq_true rfl⟩ h12
  have h8 : Sd E K 8 q_X11_init_8 := sd_dup X (by decide +kernel : decode cX11_init 8 = .ok (.dup, 1)) h9
  have h5 : Sd E K 5 q_X11_init_5 := sd_new X (by decide +kernel : decode cX11_init 5 = .ok (.new 9, 3)) ok_X1 (by decide) wd_63 wd_64 wd_26 h8
  have h4 : Sd E K 4 q_X11_init_4 := sd_aload_n X (by decide +kernel : decode cX11_init 4 = .ok (.aload_n 0, 1)) rfl h5
  have h1 : Sd E K 1 q_X11_init_1 := sd_obj X (by decide +kernel : decode cX11_init 1 = .ok (.invokespecial 3, 3)) wd_62 (Nat.le_of_ble_eq_true rfl) (Nat.le_of_ble_eq_true rfl) h4
  have h0 : Sd E K 0 q_X11_init_0 := sd_aload_n X (by decide +kernel : decode cX11_init 0 = .ok (.aload_n 0, 1)) rfl h1
  exact h0
set_option maxHeartbeats 4000000 in
set_option maxRecDepth 100000 in
theorem ct_X11_init {s0 : State} {D : va_G} {ids : Nat → ClassId} {V : Nat → Nat} {l : Launch} (G : GG s0 D ids V) : CT s0 D ids l yX11_init cX11_init 1 none rm_X11_init Sp_X11_init := CT.of (by decide +kernel) G.k (by
  rintro as z f K E ⟨a, rfl, rfl, h1, hK⟩ X
  refine ⟨Nat.le_of_ble_eq_true rfl, by simp [Value.category], t_X11_init G X _ _ _ _ ?_⟩
  simp (disch := omega) only [q_X11_init_0, q_X11_init_1, q_X11_init_4, q_X11_init_5, q_X11_init_8, q_X11_init_9, q_X11_init_12, q_X11_init_15, q_X11_init_16, q_X11_init_19, q_X11_init_20, q_X11_init_23, q_X11_init_26, q_X11_init_27, q_X11_init_29, q_X11_init_32, q_X11_init_33, q_X11_init_35, q_X11_init_38, xpush, xiload, xaload, xlload, xfload, xdload, lkill, xistore, xastore, xfstore, xlstore, xdstore, xiinc, xbin, xdiv, xun, xlbin, xi2l, xi2f, xi2d, xlcmp, xfcmp, xdcmp, xfdiv, xddiv, c1, xdup, xpop, xdup_x1, xdup2, xif, xicmp, xtab, xtabL, xget, xput, xald, xast, xalen, xnew, xnewa, c1s, recvOk, xcall, kont, xret, xlret, xfret, xdret, xaret, xvret, xs, xnewq, xastq, xcopy, xcopyF, xobj, xmax, xmin, xdead, xpushq, xmna, ls0, List.map_cons, List.map_nil, List.length_cons, List.length_nil, List.replicate, List.append_nil, List.cons_append, List.nil_append, List.getElem?_cons_zero, List.getElem?_cons_succ, List.getElem?_nil, List.set_cons_zero, List.set_cons_succ, List.take_succ_cons, List.take_zero, List.drop_succ_cons, List.drop_zero, List.reverse_cons, List.reverse_nil, List.sum_cons, List.sum_nil, Value.category, Option.toList_some, Option.toList_none, Nat.reduceAdd, Nat.reduceSub, Nat.reduceLT, Nat.reduceLeDiff, Nat.zero_add, Nat.le_refl, true_and, and_true, Nat.sub_zero, Nat.zero_lt_succ, Nat.zero_le, Nat.not_lt_zero, Nat.reduceEqDiff, Nat.one_ne_zero, nI_toInt, Int.reduceEq, Int.reduceAdd, Int.reduceLT, Int.reduceLE, Int.cast_ofNat_Int, reduceIte, or_false, false_or, eq_self, or_true, true_or, or_self, nI_clamp, vp_in_nI, nI_ltI, nI_leI, nI_eq, nI_add, nI_zero9, nI_nlt0, nI_le0, nI_lt0, arG, va_rf, not_false_eq_true, not_true_eq_false, false_implies, true_implies, implies_true, ne_eq, okv_int, okv_z0, okv_z1, okv_zN, okv_ref, okv_arr, okv_null, vn_z0, vn_z1, vn_zN, nr_int, nr_z, va_up_self, up_fr, rw1_j, rw1_up, h1]
  refine ⟨Nat.le_of_ble_eq_true rfl, Nat.le_of_ble_eq_true rfl, Nat.le_of_ble_eq_true rfl, Nat.le_of_ble_eq_true rfl, ?_⟩
  refine ⟨a + 1, rfl, rfl, va_up_self _ _ _, fun f1 g1 fr1 => ?_⟩
  have b1 := fr1 a (by omega)
  have o1 : ∀ q, q < a → f1 q = f q := fun q hq => (fr1 q (by omega)).trans (up_fr (by omega))
  simp (disch := omega) only [up_fr, va_up_self, h1] at b1
  clear fr1
  simp (disch := omega) only [q_X11_init_0, q_X11_init_1, q_X11_init_4, q_X11_init_5, q_X11_init_8, q_X11_init_9, q_X11_init_12, q_X11_init_15, q_X11_init_16, q_X11_init_19, q_X11_init_20, q_X11_init_23, q_X11_init_26, q_X11_init_27, q_X11_init_29, q_X11_init_32, q_X11_init_33, q_X11_init_35, q_X11_init_38, xpush, xiload, xaload, xlload, xfload, xdload, lkill, xistore, xastore, xfstore, xlstore, xdstore, xiinc, xbin, xdiv, xun, xlbin, xi2l, xi2f, xi2d, xlcmp, xfcmp, xdcmp, xfdiv, xddiv, c1, xdup, xpop, xdup_x1, xdup2, xif, xicmp, xtab, xtabL, xget, xput, xald, xast, xalen, xnew, xnewa, c1s, recvOk, xcall, kont, xret, xlret, xfret, xdret, xaret, xvret, xs, xnewq, xastq, xcopy, xcopyF, xobj, xmax, xmin, xdead, xpushq, xmna, ls0, List.map_cons, List.map_nil, List.length_cons, List.length_nil, List.replicate, List.append_nil, List.cons_append, List.nil_append, List.getElem?_cons_zero, List.getElem?_cons_succ, List.getElem?_nil, List.set_cons_zero, List.set_cons_succ, List.take_succ_cons, List.take_zero, List.drop_succ_cons, List.drop_zero, List.reverse_cons, List.reverse_nil, List.sum_cons, List.sum_nil, Value.category, Option.toList_some, Option.toList_none, Nat.reduceAdd, Nat.reduceSub, Nat.reduceLT, Nat.reduceLeDiff, Nat.zero_add, Nat.le_refl, true_and, and_true, Nat.sub_zero, Nat.zero_lt_succ, Nat.zero_le, Nat.not_lt_zero, Nat.reduceEqDiff, Nat.one_ne_zero, nI_toInt, Int.reduceEq, Int.reduceAdd, Int.reduceLT, Int.reduceLE, Int.cast_ofNat_Int, reduceIte, or_false, false_or, eq_self, or_true, true_or, or_self, nI_clamp, vp_in_nI, nI_ltI, nI_leI, nI_eq, nI_add, nI_zero9, nI_nlt0, nI_le0, nI_lt0, arG, va_rf, not_false_eq_true, not_true_eq_false, false_implies, true_implies, implies_true, ne_eq, okv_int, okv_z0, okv_z1, okv_zN, okv_ref, okv_arr, okv_null, vn_z0, vn_z1, vn_zN, nr_int, nr_z, va_up_self, up_fr, rw1_j, rw1_up, b1]
  refine ⟨Nat.le_of_ble_eq_true rfl, Nat.le_of_ble_eq_true rfl, Nat.le_of_ble_eq_true rfl, Nat.le_of_ble_eq_true rfl, ?_⟩
  refine ⟨a + 56, rfl, rfl, va_up_self _ _ _, fun f2 g2 fr2 => ?_⟩
  have b2 := fr2 a (by omega)
  have c2 : isCo f2 (a + 1) cmN := g1.fr (fun q h1 h2 => (fr2 q (by omega)).trans (by simp (disch := omega) only [up_fr]))
  have o2 : ∀ q, q < a → f2 q = f q := fun q hq => (fr2 q (by omega)).trans (by simp (disch := omega) only [up_fr]; exact o1 q hq)
  simp (disch := omega) only [up_fr, va_up_self] at b2
  clear fr2 o1 g1 b1
  simp (disch := omega) only [q_X11_init_0, q_X11_init_1, q_X11_init_4, q_X11_init_5, q_X11_init_8, q_X11_init_9, q_X11_init_12, q_X11_init_15, q_X11_init_16, q_X11_init_19, q_X11_init_20, q_X11_init_23, q_X11_init_26, q_X11_init_27, q_X11_init_29, q_X11_init_32, q_X11_init_33, q_X11_init_35, q_X11_init_38, xpush, xiload, xaload, xlload, xfload, xdload, lkill, xistore, xastore, xfstore, xlstore, xdstore, xiinc, xbin, xdiv, xun, xlbin, xi2l, xi2f, xi2d, xlcmp, xfcmp, xdcmp, xfdiv, xddiv, c1, xdup, xpop, xdup_x1, xdup2, xif, xicmp, xtab, xtabL, xget, xput, xald, xast, xalen, xnew, xnewa, c1s, recvOk, xcall, kont, xret, xlret, xfret, xdret, xaret, xvret, xs, xnewq, xastq, xcopy, xcopyF, xobj, xmax, xmin, xdead, xpushq, xmna, ls0, List.map_cons, List.map_nil, List.length_cons, List.length_nil, List.replicate, List.append_nil, List.cons_append, List.nil_append, List.getElem?_cons_zero, List.getElem?_cons_succ, List.getElem?_nil, List.set_cons_zero, List.set_cons_succ, List.take_succ_cons, List.take_zero, List.drop_succ_cons, List.drop_zero, List.reverse_cons, List.reverse_nil, List.sum_cons, List.sum_nil, Value.category, Option.toList_some, Option.toList_none, Nat.reduceAdd, Nat.reduceSub, Nat.reduceLT, Nat.reduceLeDiff, Nat.zero_add, Nat.le_refl, true_and, and_true, Nat.sub_zero, Nat.zero_lt_succ, Nat.zero_le, Nat.not_lt_zero, Nat.reduceEqDiff, Nat.one_ne_zero, nI_toInt, Int.reduceEq, Int.reduceAdd, Int.reduceLT, Int.reduceLE, Int.cast_ofNat_Int, reduceIte, or_false, false_or, eq_self, or_true, true_or, or_self, nI_clamp, vp_in_nI, nI_ltI, nI_leI, nI_eq, nI_add, nI_zero9, nI_nlt0, nI_le0, nI_lt0, arG, va_rf, not_false_eq_true, not_true_eq_false, false_implies, true_implies, implies_true, ne_eq, okv_int, okv_z0, okv_z1, okv_zN, okv_ref, okv_arr, okv_null, vn_z0, vn_z1, vn_zN, nr_int, nr_z, va_up_self, up_fr, rw1_j, rw1_up, b2]
  exact hK _ ⟨va_up_self _ _ _, c2.fr (fun q h1 h2 => by simp (disch := omega) only [up_fr]), g2.fr (fun q h1 h2 => by simp (disch := omega) only [up_fr])⟩ (fun q hq => by simp (disch := omega) only [up_fr]; exact o2 q hq))
abbrev Sp_X2_init : Spt := fun as z f K => ∃ (a : Nat), as = [.ref a] ∧ z = a + 1 ∧ f a = some (.inr (2, [.null, .null, .null])) ∧ ∀ f', isDs f' a (fun _ => 0) (fun _ => 0) (fun _ => 0) → (∀ q, q < a → f' q = f q) → K none (a + 4) f'
def rm_X2_init : Room := { frames := 1, cells := 3, slots := 24, locals := 20 }
def q_X2_init_28 (ls : Ls) (st : List Value) (z : Zz) (f : Fm) (E : Ej) (R : Kr) : Prop := xvret ls st z f E R
def q_X2_init_25 (ls : Ls) (st : List Value) (z : Zz) (f : Fm) (E : Ej) (R : Kr) : Prop := xput 2 2 (.array .boolean) q_X2_init_28 ls st z f E R
def q_X2_init_23 (ls : Ls) (st : List Value) (z : Zz) (f : Fm) (E : Ej) (R : Kr) : Prop := xnewa 2 q_X2_init_25 ls st z f E R
def q_X2_init_21 (ls : Ls) (st : List Value) (z : Zz) (f : Fm) (E : Ej) (R : Kr) : Prop := xpush (.int (nI 8)) q_X2_init_23 ls st z f E R
def q_X2_init_20 (ls : Ls) (st : List Value) (z : Zz) (f : Fm) (E : Ej) (R : Kr) : Prop := xaload 0 q_X2_init_21 ls st z f E R
def q_X2_init_17 (ls : Ls) (st : List Value) (z : Zz) (f : Fm) (E : Ej) (R : Kr) : Prop := xput 2 1 (.array .int) q_X2_init_20 ls st z f E R
def q_X2_init_15 (ls : Ls) (st : List Value) (z : Zz) (f : Fm) (E : Ej) (R : Kr) : Prop := xnewa 1 q_X2_init_17 ls st z f E R
def q_X2_init_13 (ls : Ls) (st : List Value) (z : Zz) (f : Fm) (E : Ej) (R : Kr) : Prop := xpush (.int (nI 8)) q_X2_init_15 ls st z f E R
def q_X2_init_12 (ls : Ls) (st : List Value) (z : Zz) (f : Fm) (E : Ej) (R : Kr) : Prop := xaload 0 q_X2_init_13 ls st z f E R
def q_X2_init_9 (ls : Ls) (st : List Value) (z : Zz) (f : Fm) (E : Ej) (R : Kr) : Prop := xput 2 0 (.array .int) q_X2_init_12 ls st z f E R
def q_X2_init_7 (ls : Ls) (st : List Value) (z : Zz) (f : Fm) (E : Ej) (R : Kr) : Prop := xnewa 1 q_X2_init_9 ls st z f E R
def q_X2_init_5 (ls : Ls) (st : List Value) (z : Zz) (f : Fm) (E : Ej) (R : Kr) : Prop := xpush (.int (nI 8)) q_X2_init_7 ls st z f E R
def q_X2_init_4 (ls : Ls) (st : List Value) (z : Zz) (f : Fm) (E : Ej) (R : Kr) : Prop := xaload 0 q_X2_init_5 ls st z f E R
def q_X2_init_1 (ls : Ls) (st : List Value) (z : Zz) (f : Fm) (E : Ej) (R : Kr) : Prop := xobj q_X2_init_4 ls st z f E R
def q_X2_init_0 (ls : Ls) (st : List Value) (z : Zz) (f : Fm) (E : Ej) (R : Kr) : Prop := xaload 0 q_X2_init_1 ls st z f E R
set_option maxRecDepth 100000 in
theorem t_X2_init {s0 : State} {D : va_G} {ids : Nat → ClassId} {V : Nat → Nat} {l : Launch} {K : Kr} {E : Ej} (G : GG s0 D ids V) (X : EnX s0 D ids l RX2 cX2_init 1 none "<init>" rm_X2_init K E) : Sd E K 0 q_X2_init_0 := by
  have h28 : Sd E K 28 q_X2_init_28 := sd_vret X (by decide +kernel : decode cX2_init 28 = .ok (.return_, 1))
  have h25 : Sd E K 25 q_X2_init_25 := sd_putF X (by decide +kernel : decode cX2_init 25 = .ok (.putfield 18, 3)) ok_X2 (Nat.le_of_ble_eq_true rfl) rfl rfl rfl wd_266 h28
  have h23 : Sd E K 23 q_X2_init_23 := sd_newa X (Nat.le_of_ble_eq_true rfl) rfl rfl (by decide) (by decide +kernel : decode cX2_init 23 = .ok (.newarray .boolean, 2)) wd_86 (G.nm2) h25
  have h21 : Sd E K 21 q_X2_init_21 := sd_bipush X (by decide +kernel : decode cX2_init 21 = .ok (.bipush 8, 2)) (by decide +kernel) h23
  have h20 : Sd E K 20 q_X2_init_20 := sd_aload_n X (by decide +kernel : decode cX2_init 20 = .ok (.aload_n 0, 1)) rfl h21
  have h17 : Sd E K 17 q_X2_init_17 := sd_putF X (by decide +kernel : decode cX2_init 17 = .ok (.putfield 15, 3)) ok_X2 (Nat.le_of_ble_eq_true rfl) rfl rfl rfl wd_264 h20
  have h15 : Sd E K 15 q_X2_init_15 := sd_newa X (Nat.le_of_ble_eq_true rfl) rfl rfl (by decide) (by decide +kernel : decode cX2_init 15 = .ok (.newarray .int, 2)) wd_87 (G.nm1) h17
  have h13 : Sd E K 13 q_X2_init_13 := sd_bipush X (by decide +kernel : decode cX2_init 13 = .ok (.bipush 8, 2)) (by decide +kernel) h15
  have h12 : Sd E K 12 q_X2_init_12 := sd_aload_n X (by decide +kernel : decode cX2_init 12 = .ok (.aload_n 0, 1)) rfl h13
  have h9 : Sd E K 9 q_X2_init_9 := sd_putF X (by decide +kernel : decode cX2_init 9 = .ok (.putfield 9, 3)) ok_X2 (Nat.le_of_ble_eq_true rfl) rfl rfl rfl wd_262 h12
  have h7 : Sd E K 7 q_X2_init_7 := sd_newa X (Nat.le_of_ble_eq_true rfl) rfl rfl (by decide) (by decide +kernel : decode cX2_init 7 = .ok (.newarray .int, 2)) wd_87 (G.nm1) h9
  have h5 : Sd E K 5 q_X2_init_5 := sd_bipush X (by decide +kernel : decode cX2_init 5 = .ok (.bipush 8, 2)) (by decide +kernel) h7
  have h4 : Sd E K 4 q_X2_init_4 := sd_aload_n X (by decide +kernel : decode cX2_init 4 = .ok (.aload_n 0, 1)) rfl h5
  have h1 : Sd E K 1 q_X2_init_1 := sd_obj X (by decide +kernel : decode cX2_init 1 = .ok (.invokespecial 3, 3)) wd_261 (Nat.le_of_ble_eq_true rfl) (Nat.le_of_ble_eq_true rfl) h4
  have h0 : Sd E K 0 q_X2_init_0 := sd_aload_n X (by decide +kernel : decode cX2_init 0 = .ok (.aload_n 0, 1)) rfl h1
  exact h0
set_option maxHeartbeats 4000000 in
set_option maxRecDepth 100000 in
theorem ct_X2_init {s0 : State} {D : va_G} {ids : Nat → ClassId} {V : Nat → Nat} {l : Launch} (G : GG s0 D ids V) : CT s0 D ids l yX2_init cX2_init 1 none rm_X2_init Sp_X2_init := CT.of (by decide +kernel) G.k (by
  rintro as z f K E ⟨a, rfl, rfl, h1, hK⟩ X
  refine ⟨Nat.le_of_ble_eq_true rfl, by simp [Value.category], t_X2_init G X _ _ _ _ ?_⟩
  simp (disch := omega) only [q_X2_init_0, q_X2_init_1, q_X2_init_4, q_X2_init_5, q_X2_init_7, q_X2_init_9, q_X2_init_12, q_X2_init_13, q_X2_init_15, q_X2_init_17, q_X2_init_20, q_X2_init_21, q_X2_init_23, q_X2_init_25, q_X2_init_28, xpush, xiload, xaload, xlload, xfload, xdload, lkill, xistore, xastore, xfstore, xlstore, xdstore, xiinc, xbin, xdiv, xun, xlbin, xi2l, xi2f, xi2d, xlcmp, xfcmp, xdcmp, xfdiv, xddiv, c1, xdup, xpop, xdup_x1, xdup2, xif, xicmp, xtab, xtabL, xget, xput, xald, xast, xalen, xnew, xnewa, c1s, recvOk, xcall, kont, xret, xlret, xfret, xdret, xaret, xvret, xs, xnewq, xastq, xcopy, xcopyF, xobj, xmax, xmin, xdead, xpushq, xmna, ls0, List.map_cons, List.map_nil, List.length_cons, List.length_nil, List.replicate, List.append_nil, List.cons_append, List.nil_append, List.getElem?_cons_zero, List.getElem?_cons_succ, List.getElem?_nil, List.set_cons_zero, List.set_cons_succ, List.take_succ_cons, List.take_zero, List.drop_succ_cons, List.drop_zero, List.reverse_cons, List.reverse_nil, List.sum_cons, List.sum_nil, Value.category, Option.toList_some, Option.toList_none, Nat.reduceAdd, Nat.reduceSub, Nat.reduceLT, Nat.reduceLeDiff, Nat.zero_add, Nat.le_refl, true_and, and_true, Nat.sub_zero, Nat.zero_lt_succ, Nat.zero_le, Nat.not_lt_zero, Nat.reduceEqDiff, Nat.one_ne_zero, nI_toInt, Int.reduceEq, Int.reduceAdd, Int.reduceLT, Int.reduceLE, Int.cast_ofNat_Int, reduceIte, or_false, false_or, eq_self, or_true, true_or, or_self, nI_clamp, vp_in_nI, nI_ltI, nI_leI, nI_eq, nI_add, nI_zero9, nI_nlt0, nI_le0, nI_lt0, arG, va_rf, not_false_eq_true, not_true_eq_false, false_implies, true_implies, implies_true, ne_eq, okv_int, okv_z0, okv_z1, okv_zN, okv_ref, okv_arr, okv_null, vn_z0, vn_z1, vn_zN, nr_int, nr_z, va_up_self, up_fr, rw1_j, rw1_up, h1]
  refine ⟨Nat.le_of_ble_eq_true rfl, Nat.le_of_ble_eq_true rfl, Nat.le_of_ble_eq_true rfl, Nat.le_of_ble_eq_true rfl, Nat.le_of_ble_eq_true rfl, Nat.le_of_ble_eq_true rfl, ?_⟩
  refine hK _ ⟨va_up_self _ _ _, ?_⟩ (fun q hq => by simp (disch := omega) only [up_fr])
  unfold isI isZ
  simp (disch := omega) only [va_up_self, up_fr]
  exact ⟨rfl, rfl, rfl⟩)
abbrev Sp_X10_init : Spt := fun as z f K => ∃ (a : Nat), as = [.ref a] ∧ z = a + 1 ∧ f a = some (.inr (9, [.null, .null, .int (nI 0), .int (nI 0), .int (nI 0), .int (nI 0)])) ∧ ∀ f', isTr f' a (fun _ => 0) (fun _ => 0) 0 0 0 0 → (∀ q, q < a → f' q = f q) → K none (a + 3) f'
def rm_X10_init : Room := { frames := 1, cells := 2, slots := 16, locals := 20 }
def q_X10_init_40 (ls : Ls) (st : List Value) (z : Zz) (f : Fm) (E : Ej) (R : Kr) : Prop := xvret ls st z f E R
def q_X10_init_37 (ls : Ls) (st : List Value) (z : Zz) (f : Fm) (E : Ej) (R : Kr) : Prop := xput 9 5 .boolean q_X10_init_40 ls st z f E R
def q_X10_init_36 (ls : Ls) (st : List Value) (z : Zz) (f : Fm) (E : Ej) (R : Kr) : Prop := xpush (.int (nI 0)) q_X10_init_37 ls st z f E R
def q_X10_init_35 (ls : Ls) (st : List Value) (z : Zz) (f : Fm) (E : Ej) (R : Kr) : Prop := xaload 0 q_X10_init_36 ls st z f E R
def q_X10_init_32 (ls : Ls) (st : List Value) (z : Zz) (f : Fm) (E : Ej) (R : Kr) : Prop := xput 9 4 .int q_X10_init_35 ls st z f E R
def q_X10_init_31 (ls : Ls) (st : List Value) (z : Zz) (f : Fm) (E : Ej) (R : Kr) : Prop := xpush (.int (nI 0)) q_X10_init_32 ls st z f E R
def q_X10_init_30 (ls : Ls) (st : List Value) (z : Zz) (f : Fm) (E : Ej) (R : Kr) : Prop := xaload 0 q_X10_init_31 ls st z f E R
def q_X10_init_27 (ls : Ls) (st : List Value) (z : Zz) (f : Fm) (E : Ej) (R : Kr) : Prop := xput 9 3 .int q_X10_init_30 ls st z f E R
def q_X10_init_26 (ls : Ls) (st : List Value) (z : Zz) (f : Fm) (E : Ej) (R : Kr) : Prop := xpush (.int (nI 0)) q_X10_init_27 ls st z f E R
def q_X10_init_25 (ls : Ls) (st : List Value) (z : Zz) (f : Fm) (E : Ej) (R : Kr) : Prop := xaload 0 q_X10_init_26 ls st z f E R
def q_X10_init_22 (ls : Ls) (st : List Value) (z : Zz) (f : Fm) (E : Ej) (R : Kr) : Prop := xput 9 2 .int q_X10_init_25 ls st z f E R
def q_X10_init_21 (ls : Ls) (st : List Value) (z : Zz) (f : Fm) (E : Ej) (R : Kr) : Prop := xpush (.int (nI 0)) q_X10_init_22 ls st z f E R
def q_X10_init_20 (ls : Ls) (st : List Value) (z : Zz) (f : Fm) (E : Ej) (R : Kr) : Prop := xaload 0 q_X10_init_21 ls st z f E R
def q_X10_init_17 (ls : Ls) (st : List Value) (z : Zz) (f : Fm) (E : Ej) (R : Kr) : Prop := xput 9 1 (.array .boolean) q_X10_init_20 ls st z f E R
def q_X10_init_15 (ls : Ls) (st : List Value) (z : Zz) (f : Fm) (E : Ej) (R : Kr) : Prop := xnewa 2 q_X10_init_17 ls st z f E R
def q_X10_init_13 (ls : Ls) (st : List Value) (z : Zz) (f : Fm) (E : Ej) (R : Kr) : Prop := xpush (.int (nI 8)) q_X10_init_15 ls st z f E R
def q_X10_init_12 (ls : Ls) (st : List Value) (z : Zz) (f : Fm) (E : Ej) (R : Kr) : Prop := xaload 0 q_X10_init_13 ls st z f E R
def q_X10_init_9 (ls : Ls) (st : List Value) (z : Zz) (f : Fm) (E : Ej) (R : Kr) : Prop := xput 9 0 (.array .int) q_X10_init_12 ls st z f E R
def q_X10_init_7 (ls : Ls) (st : List Value) (z : Zz) (f : Fm) (E : Ej) (R : Kr) : Prop := xnewa 1 q_X10_init_9 ls st z f E R
def q_X10_init_5 (ls : Ls) (st : List Value) (z : Zz) (f : Fm) (E : Ej) (R : Kr) : Prop := xpush (.int (nI 8)) q_X10_init_7 ls st z f E R
def q_X10_init_4 (ls : Ls) (st : List Value) (z : Zz) (f : Fm) (E : Ej) (R : Kr) : Prop := xaload 0 q_X10_init_5 ls st z f E R
def q_X10_init_1 (ls : Ls) (st : List Value) (z : Zz) (f : Fm) (E : Ej) (R : Kr) : Prop := xobj q_X10_init_4 ls st z f E R
def q_X10_init_0 (ls : Ls) (st : List Value) (z : Zz) (f : Fm) (E : Ej) (R : Kr) : Prop := xaload 0 q_X10_init_1 ls st z f E R
set_option maxRecDepth 100000 in
theorem t_X10_init {s0 : State} {D : va_G} {ids : Nat → ClassId} {V : Nat → Nat} {l : Launch} {K : Kr} {E : Ej} (G : GG s0 D ids V) (X : EnX s0 D ids l RX10 cX10_init 1 none "<init>" rm_X10_init K E) : Sd E K 0 q_X10_init_0 := by
  have h40 : Sd E K 40 q_X10_init_40 := sd_vret X (by decide +kernel : decode cX10_init 40 = .ok (.return_, 1))
  have h37 : Sd E K 37 q_X10_init_37 := sd_put X (by decide +kernel : decode cX10_init 37 = .ok (.putfield 29, 3)) ok_X10 (Nat.le_of_ble_eq_true rfl) rfl rfl wd_289 h40
  have h36 : Sd E K 36 q_X10_init_36 := sd_iconst X (by decide +kernel : decode cX10_init 36 = .ok (.iconst 0, 1)) (by decide +kernel) h37
  have h35 : Sd E K 35 q_X10_init_35 := sd_aload_n X (by decide +kernel : decode cX10_init 35 = .ok (.aload_n 0, 1)) rfl h36
  have h32 : Sd E K 32 q_X10_init_32 := sd_put X (by decide +kernel : decode cX10_init 32 = .ok (.putfield 26, 3)) ok_X10 (Nat.le_of_ble_eq_true rfl) rfl rfl wd_287 h35
  have h31 : Sd E K 31 q_X10_init_31 := sd_iconst X (by decide +kernel : decode cX10_init 31 = .ok (.iconst 0, 1)) (by decide +kernel) h32
  have h30 : Sd E K 30 q_X10_init_30 := sd_aload_n X (by decide +kernel : decode cX10_init 30 = .ok (.aload_n 0, 1)) rfl h31
  have h27 : Sd E K 27 q_X10_init_27 := sd_put X (by decide +kernel : decode cX10_init 27 = .ok (.putfield 23, 3)) ok_X10 (Nat.le_of_ble_eq_true rfl) rfl rfl wd_285 h30
  have h26 : Sd E K 26 q_X10_init_26 := sd_iconst X (by decide +kernel : decode cX10_init 26 = .ok (.iconst 0, 1)) (by decide +kernel) h27
  have h25 : Sd E K 25 q_X10_init_25 := sd_aload_n X (by decide +kernel : decode cX10_init 25 = .ok (.aload_n 0, 1)) rfl h26
  have h22 : Sd E K 22 q_X10_init_22 := sd_put X (by decide +kernel : decode cX10_init 22 = .ok (.putfield 19, 3)) ok_X10 (Nat.le_of_ble_eq_true rfl) rfl rfl wd_283 h25
  have h21 : Sd E K 21 q_X10_init_21 := sd_iconst X (by decide +kernel : decode cX10_init 21 = .ok (.iconst 0, 1)) (by decide +kernel) h22
  have h20 : Sd E K 20 q_X10_init_20 := sd_aload_n X (by decide +kernel : decode cX10_init 20 = .ok (.aload_n 0, 1)) rfl h21
  have h17 : Sd E K 17 q_X10_init_17 := sd_putF X (by decide +kernel : decode cX10_init 17 = .ok (.putfield 15, 3)) ok_X10 (Nat.le_of_ble_eq_true rfl) rfl rfl rfl wd_282 h20
  have h15 : Sd E K 15 q_X10_init_15 := sd_newa X (Nat.le_of_ble_eq_true rfl) rfl rfl (by decide) (by decide +kernel : decode cX10_init 15 = .ok (.newarray .boolean, 2)) wd_86 (G.nm2) h17
  have h13 : Sd E K 13 q_X10_init_13 := sd_bipush X (by decide +kernel : decode cX10_init 13 = .ok (.bipush 8, 2)) (by decide +kernel) h15
  have h12 : Sd E K 12 q_X10_init_12 := sd_aload_n X (by decide +kernel : decode cX10_init 12 = .ok (.aload_n 0, 1)) rfl h13
  have h9 : Sd E K 9 q_X10_init_9 := sd_putF X (by decide +kernel : decode cX10_init 9 = .ok (.putfield 9, 3)) ok_X10 (Nat.le_of_ble_eq_true rfl) rfl rfl rfl wd_280 h12
  have h7 : Sd E K 7 q_X10_init_7 := sd_newa X (Nat.le_of_ble_eq_true rfl) rfl rfl (by decide) (by decide +kernel : decode cX10_init 7 = .ok (.newarray .int, 2)) wd_87 (G.nm1) h9
  have h5 : Sd E K 5 q_X10_init_5 := sd_bipush X (by decide +kernel : decode cX10_init 5 = .ok (.bipush 8, 2)) (by decide +kernel) h7
  have h4 : Sd E K 4 q_X10_init_4 := sd_aload_n X (by decide +kernel : decode cX10_init 4 = .ok (.aload_n 0, 1)) rfl h5
  have h1 : Sd E K 1 q_X10_init_1 := sd_obj X (by decide +kernel : decode cX10_init 1 = .ok (.invokespecial 3, 3)) wd_279 (Nat.le_of_ble_eq_true rfl) (Nat.le_of_ble_eq_true rfl) h4
  have h0 : Sd E K 0 q_X10_init_0 := sd_aload_n X (by decide +kernel : decode cX10_init 0 = .ok (.aload_n 0, 1)) rfl h1
  exact h0
set_option maxHeartbeats 4000000 in
set_option maxRecDepth 100000 in
theorem ct_X10_init {s0 : State} {D : va_G} {ids : Nat → ClassId} {V : Nat → Nat} {l : Launch} (G : GG s0 D ids V) : CT s0 D ids l yX10_init cX10_init 1 none rm_X10_init Sp_X10_init := CT.of (by decide +kernel) G.k (by
  rintro as z f K E ⟨a, rfl, rfl, h1, hK⟩ X
  refine ⟨Nat.le_of_ble_eq_true rfl, by simp [Value.category], t_X10_init G X _ _ _ _ ?_⟩
  simp (disch := omega) only [q_X10_init_0, q_X10_init_1, q_X10_init_4, q_X10_init_5, q_X10_init_7, q_X10_init_9, q_X10_init_12, q_X10_init_13, q_X10_init_15, q_X10_init_17, q_X10_init_20, q_X10_init_21, q_X10_init_22, q_X10_init_25, q_X10_init_26, q_X10_init_27, q_X10_init_30, q_X10_init_31, q_X10_init_32, q_X10_init_35, q_X10_init_36, q_X10_init_37, q_X10_init_40, xpush, xiload, xaload, xlload, xfload, xdload, lkill, xistore, xastore, xfstore, xlstore, xdstore, xiinc, xbin, xdiv, xun, xlbin, xi2l, xi2f, xi2d, xlcmp, xfcmp, xdcmp, xfdiv, xddiv, c1, xdup, xpop, xdup_x1, xdup2, xif, xicmp, xtab, xtabL, xget, xput, xald, xast, xalen, xnew, xnewa, c1s, recvOk, xcall, kont, xret, xlret, xfret, xdret, xaret, xvret, xs, xnewq, xastq, xcopy, xcopyF, xobj, xmax, xmin, xdead, xpushq, xmna, ls0, List.map_cons, List.map_nil, List.length_cons, List.length_nil, List.replicate, List.append_nil, List.cons_append, List.nil_append, List.getElem?_cons_zero, List.getElem?_cons_succ, List.getElem?_nil, List.set_cons_zero, List.set_cons_succ, List.take_succ_cons, List.take_zero, List.drop_succ_cons, List.drop_zero, List.reverse_cons, List.reverse_nil, List.sum_cons, List.sum_nil, Value.category, Option.toList_some, Option.toList_none, Nat.reduceAdd, Nat.reduceSub, Nat.reduceLT, Nat.reduceLeDiff, Nat.zero_add, Nat.le_refl, true_and, and_true, Nat.sub_zero, Nat.zero_lt_succ, Nat.zero_le, Nat.not_lt_zero, Nat.reduceEqDiff, Nat.one_ne_zero, nI_toInt, Int.reduceEq, Int.reduceAdd, Int.reduceLT, Int.reduceLE, Int.cast_ofNat_Int, reduceIte, or_false, false_or, eq_self, or_true, true_or, or_self, nI_clamp, vp_in_nI, nI_ltI, nI_leI, nI_eq, nI_add, nI_zero9, nI_nlt0, nI_le0, nI_lt0, arG, va_rf, not_false_eq_true, not_true_eq_false, false_implies, true_implies, implies_true, ne_eq, okv_int, okv_z0, okv_z1, okv_zN, okv_ref, okv_arr, okv_null, vn_z0, vn_z1, vn_zN, nr_int, nr_z, va_up_self, up_fr, rw1_j, rw1_up, h1]
  refine ⟨Nat.le_of_ble_eq_true rfl, Nat.le_of_ble_eq_true rfl, Nat.le_of_ble_eq_true rfl, Nat.le_of_ble_eq_true rfl, ?_⟩
  refine hK _ ⟨va_up_self _ _ _, ?_⟩ (fun q hq => by simp (disch := omega) only [up_fr])
  unfold isI isZ
  simp (disch := omega) only [va_up_self, up_fr]
  exact ⟨rfl, rfl⟩)
abbrev Sp_X7_init (V : Nat → Nat) : Spt := fun as z f K => ∃ (a : Nat), as = [.ref a] ∧ z = a + 1 ∧ f a = some (.inr (6, [.null, .int (nI 0), .null, .int (nI 0), .int (nI 0), .int (nI 0), .int (nI 0)])) ∧ ∀ f', isRr V f' a (a + 1) (fun _ => 0) → f' (a + 1) = some (.inr (0, [.ref (a + 2), .int (nI 0), .int (nI 0), .int (nI 0)])) → f' (a + 2) = some (.inl (0, 16, .inl (rw1 (fun _ => 0)))) → (∀ q, q < a → f' q = f q) → K none (a + 3) f'
def rm_X7_init : Room := { frames := 3, cells := 2, slots := 20, locals := 61 }
def q_X7_init_47 (V : Nat → Nat) (ls : Ls) (st : List Value) (z : Zz) (f : Fm) (E : Ej) (R : Kr) : Prop := xvret ls st z f E R
def q_X7_init_44 (V : Nat → Nat) (ls : Ls) (st : List Value) (z : Zz) (f : Fm) (E : Ej) (R : Kr) : Prop := xput 6 6 .boolean (q_X7_init_47 V) ls st z f E R
def q_X7_init_43 (V : Nat → Nat) (ls : Ls) (st : List Value) (z : Zz) (f : Fm) (E : Ej) (R : Kr) : Prop := xpush (.int (nI 0)) (q_X7_init_44 V) ls st z f E R
def q_X7_init_42 (V : Nat → Nat) (ls : Ls) (st : List Value) (z : Zz) (f : Fm) (E : Ej) (R : Kr) : Prop := xaload 0 (q_X7_init_43 V) ls st z f E R
def q_X7_init_39 (V : Nat → Nat) (ls : Ls) (st : List Value) (z : Zz) (f : Fm) (E : Ej) (R : Kr) : Prop := xput 6 5 .int (q_X7_init_42 V) ls st z f E R
def q_X7_init_38 (V : Nat → Nat) (ls : Ls) (st : List Value) (z : Zz) (f : Fm) (E : Ej) (R : Kr) : Prop := xpush (.int (nI 0)) (q_X7_init_39 V) ls st z f E R
def q_X7_init_37 (V : Nat → Nat) (ls : Ls) (st : List Value) (z : Zz) (f : Fm) (E : Ej) (R : Kr) : Prop := xaload 0 (q_X7_init_38 V) ls st z f E R
def q_X7_init_34 (V : Nat → Nat) (ls : Ls) (st : List Value) (z : Zz) (f : Fm) (E : Ej) (R : Kr) : Prop := xput 6 4 .int (q_X7_init_37 V) ls st z f E R
def q_X7_init_33 (V : Nat → Nat) (ls : Ls) (st : List Value) (z : Zz) (f : Fm) (E : Ej) (R : Kr) : Prop := xpush (.int (nI 0)) (q_X7_init_34 V) ls st z f E R
def q_X7_init_32 (V : Nat → Nat) (ls : Ls) (st : List Value) (z : Zz) (f : Fm) (E : Ej) (R : Kr) : Prop := xaload 0 (q_X7_init_33 V) ls st z f E R
def q_X7_init_29 (V : Nat → Nat) (ls : Ls) (st : List Value) (z : Zz) (f : Fm) (E : Ej) (R : Kr) : Prop := xput 6 3 .int (q_X7_init_32 V) ls st z f E R
def q_X7_init_28 (V : Nat → Nat) (ls : Ls) (st : List Value) (z : Zz) (f : Fm) (E : Ej) (R : Kr) : Prop := xpush (.int (nI 0)) (q_X7_init_29 V) ls st z f E R
def q_X7_init_27 (V : Nat → Nat) (ls : Ls) (st : List Value) (z : Zz) (f : Fm) (E : Ej) (R : Kr) : Prop := xaload 0 (q_X7_init_28 V) ls st z f E R
def q_X7_init_24 (V : Nat → Nat) (ls : Ls) (st : List Value) (z : Zz) (f : Fm) (E : Ej) (R : Kr) : Prop := xput 6 2 (.object "FortHeralds$Kind") (q_X7_init_27 V) ls st z f E R
def q_X7_init_21 (V : Nat → Nat) (ls : Ls) (st : List Value) (z : Zz) (f : Fm) (E : Ej) (R : Kr) : Prop := xpush (.ref (V 10)) (q_X7_init_24 V) ls st z f E R
def q_X7_init_20 (V : Nat → Nat) (ls : Ls) (st : List Value) (z : Zz) (f : Fm) (E : Ej) (R : Kr) : Prop := xaload 0 (q_X7_init_21 V) ls st z f E R
def q_X7_init_17 (V : Nat → Nat) (ls : Ls) (st : List Value) (z : Zz) (f : Fm) (E : Ej) (R : Kr) : Prop := xput 6 1 .int (q_X7_init_20 V) ls st z f E R
def q_X7_init_16 (V : Nat → Nat) (ls : Ls) (st : List Value) (z : Zz) (f : Fm) (E : Ej) (R : Kr) : Prop := xpush (.int (nI 0)) (q_X7_init_17 V) ls st z f E R
def q_X7_init_15 (V : Nat → Nat) (ls : Ls) (st : List Value) (z : Zz) (f : Fm) (E : Ej) (R : Kr) : Prop := xaload 0 (q_X7_init_16 V) ls st z f E R
def q_X7_init_12 (V : Nat → Nat) (ls : Ls) (st : List Value) (z : Zz) (f : Fm) (E : Ej) (R : Kr) : Prop := xput 6 0 (.object "java/lang/StringBuilder") (q_X7_init_15 V) ls st z f E R
def q_X7_init_9 (V : Nat → Nat) (ls : Ls) (st : List Value) (z : Zz) (f : Fm) (E : Ej) (R : Kr) : Prop := xcall 1 1 Sp_J4_init_da8c8 1 16 (q_X7_init_12 V) ls st z f E R
def q_X7_init_8 (V : Nat → Nat) (ls : Ls) (st : List Value) (z : Zz) (f : Fm) (E : Ej) (R : Kr) : Prop := xdup (q_X7_init_9 V) ls st z f E R
def q_X7_init_5 (V : Nat → Nat) (ls : Ls) (st : List Value) (z : Zz) (f : Fm) (E : Ej) (R : Kr) : Prop := xnew 0 4 [.null, .int 0, .int 0, .int 0] (q_X7_init_8 V) ls st z f E R
def q_X7_init_4 (V : Nat → Nat) (ls : Ls) (st : List Value) (z : Zz) (f : Fm) (E : Ej) (R : Kr) : Prop := xaload 0 (q_X7_init_5 V) ls st z f E R
def q_X7_init_1 (V : Nat → Nat) (ls : Ls) (st : List Value) (z : Zz) (f : Fm) (E : Ej) (R : Kr) : Prop := xobj (q_X7_init_4 V) ls st z f E R
def q_X7_init_0 (V : Nat → Nat) (ls : Ls) (st : List Value) (z : Zz) (f : Fm) (E : Ej) (R : Kr) : Prop := xaload 0 (q_X7_init_1 V) ls st z f E R
set_option maxRecDepth 100000 in
theorem t_X7_init {s0 : State} {D : va_G} {ids : Nat → ClassId} {V : Nat → Nat} {l : Launch} {K : Kr} {E : Ej} (G : GG s0 D ids V) (X : EnX s0 D ids l RX7 cX7_init 1 none "<init>" rm_X7_init K E) : Sd E K 0 (q_X7_init_0 V) := by
  have h47 : Sd E K 47 (q_X7_init_47 V) := sd_vret X (by decide +kernel : decode cX7_init 47 = .ok (.return_, 1))
  have h44 : Sd E K 44 (q_X7_init_44 V) := sd_put X (by decide +kernel : decode cX7_init 44 = .ok (.putfield 40, 3)) ok_X7 (Nat.le_of_ble_eq_true rfl) rfl rfl wd_356 h47
  have h43 : Sd E K 43 (q_X7_init_43 V) := sd_iconst X (by decide +kernel : decode cX7_init 43 = .ok (.iconst 0, 1)) (by decide +kernel) h44
  have h42 : Sd E K 42 (q_X7_init_42 V) := sd_aload_n X (by decide +kernel : decode cX7_init 42 = .ok (.aload_n 0, 1)) rfl h43
  have h39 : Sd E K 39 (q_X7_init_39 V) := sd_put X (by decide +kernel : decode cX7_init 39 = .ok (.putfield 37, 3)) ok_X7 (Nat.le_of_ble_eq_true rfl) rfl rfl wd_354 h42
  have h38 : Sd E K 38 (q_X7_init_38 V) := sd_iconst X (by decide +kernel : decode cX7_init 38 = .ok (.iconst 0, 1)) (by decide +kernel) h39
  have h37 : Sd E K 37 (q_X7_init_37 V) := sd_aload_n X (by decide +kernel : decode cX7_init 37 = .ok (.aload_n 0, 1)) rfl h38
  have h34 : Sd E K 34 (q_X7_init_34 V) := sd_put X (by decide +kernel : decode cX7_init 34 = .ok (.putfield 34, 3)) ok_X7 (Nat.le_of_ble_eq_true rfl) rfl rfl wd_352 h37
  have h33 : Sd E K 33 (q_X7_init_33 V) := sd_iconst X (by decide +kernel : decode cX7_init 33 = .ok (.iconst 0, 1)) (by decide +kernel) h34
  have h32 : Sd E K 32 (q_X7_init_32 V) := sd_aload_n X (by decide +kernel : decode cX7_init 32 = .ok (.aload_n 0, 1)) rfl h33
  have h29 : Sd E K 29 (q_X7_init_29 V) := sd_put X (by decide +kernel : decode cX7_init 29 = .ok (.putfield 31, 3)) ok_X7 (Nat.le_of_ble_eq_true rfl) rfl rfl wd_350 h32
  have h28 : Sd E K 28 (q_X7_init_28 V) := sd_iconst X (by decide +kernel : decode cX7_init 28 = .ok (.iconst 0, 1)) (by decide +kernel) h29
  have h27 : Sd E K 27 (q_X7_init_27 V) := sd_aload_n X (by decide +kernel : decode cX7_init 27 = .ok (.aload_n 0, 1)) rfl h28
  have h24 : Sd E K 24 (q_X7_init_24 V) := sd_put X (by decide +kernel : decode cX7_init 24 = .ok (.putfield 28, 3)) ok_X7 (Nat.le_of_ble_eq_true rfl) rfl rfl wd_348 h27
  have h21 : Sd E K 21 (q_X7_init_21 V) := sd_gst X G.z3 (by decide +kernel : decode cX7_init 21 = .ok (.getstatic 22, 3)) wd_342 h24
  have h20 : Sd E K 20 (q_X7_init_20 V) := sd_aload_n X (by decide +kernel : decode cX7_init 20 = .ok (.aload_n 0, 1)) rfl h21
  have h17 : Sd E K 17 (q_X7_init_17 V) := sd_put X (by decide +kernel : decode cX7_init 17 = .ok (.putfield 18, 3)) ok_X7 (Nat.le_of_ble_eq_true rfl) rfl rfl wd_346 h20
  have h16 : Sd E K 16 (q_X7_init_16 V) := sd_iconst X (by decide +kernel : decode cX7_init 16 = .ok (.iconst 0, 1)) (by decide +kernel) h17
  have h15 : Sd E K 15 (q_X7_init_15 V) := sd_aload_n X (by decide +kernel : decode cX7_init 15 = .ok (.aload_n 0, 1)) rfl h16
  have h12 : Sd E K 12 (q_X7_init_12 V) := sd_putF X (by decide +kernel : decode cX7_init 12 = .ok (.putfield 12, 3)) ok_X7 (Nat.le_of_ble_eq_true rfl) rfl rfl rfl wd_344 h15
  have h9 : Sd E K 9 (q_X7_init_9 V) := sd_callI (n := 0) (ci := 0) X (ct_J4_init_da8c8 G) (by decide +kernel : decode cX7_init 9 = .ok (.invokespecial 11, 3)) wd_314 wd_312 wd_313 wd_36 rfl (by decide +kernel) ⟨Nat.le_of_ble_eq_true rfl, Nat.le_of_ble_eq_true rfl⟩ h12
  have h8 : Sd E K 8 (q_X7_init_8 V) := sd_dup X (by decide +kernel : decode cX7_init 8 = .ok (.dup, 1)) h9
  have h5 : Sd E K 5 (q_X7_init_5 V) := sd_new X (by decide +kernel : decode cX7_init 5 = .ok (.new 9, 3)) ok_J4 (by decide) wd_310 wd_311 wd_36 h8
  have h4 : Sd E K 4 (q_X7_init_4 V) := sd_aload_n X (by decide +kernel : decode cX7_init 4 = .ok (.aload_n 0, 1)) rfl h5
  have h1 : Sd E K 1 (q_X7_init_1 V) := sd_obj X (by decide +kernel : decode cX7_init 1 = .ok (.invokespecial 3, 3)) wd_309 (Nat.le_of_ble_eq_true rfl) (Nat.le_of_ble_eq_true rfl) h4
  have h0 : Sd E K 0 (q_X7_init_0 V) := sd_aload_n X (by decide +kernel : decode cX7_init 0 = .ok (.aload_n 0, 1)) rfl h1
  exact h0
set_option maxHeartbeats 4000000 in
set_option maxRecDepth 100000 in
theorem ct_X7_init {s0 : State} {D : va_G} {ids : Nat → ClassId} {V : Nat → Nat} {l : Launch} (G : GG s0 D ids V) : CT s0 D ids l yX7_init cX7_init 1 none rm_X7_init (Sp_X7_init V) := CT.of (by decide +kernel) G.k (by
  rintro as z f K E ⟨a, rfl, rfl, h1, hK⟩ X
  refine ⟨Nat.le_of_ble_eq_true rfl, by simp [Value.category], t_X7_init G X _ _ _ _ ?_⟩
  simp (disch := omega) only [q_X7_init_0, q_X7_init_1, q_X7_init_4, q_X7_init_5, q_X7_init_8, q_X7_init_9, q_X7_init_12, q_X7_init_15, q_X7_init_16, q_X7_init_17, q_X7_init_20, q_X7_init_21, q_X7_init_24, q_X7_init_27, q_X7_init_28, q_X7_init_29, q_X7_init_32, q_X7_init_33, q_X7_init_34, q_X7_init_37, q_X7_init_38, q_X7_init_39, q_X7_init_42, q_X7_init_43, q_X7_init_44, q_X7_init_47, xpush, xiload, xaload, xlload, xfload, xdload, lkill, xistore, xastore, xfstore, xlstore, xdstore, xiinc, xbin, xdiv, xun, xlbin, xi2l, xi2f, xi2d, xlcmp, xfcmp, xdcmp, xfdiv, xddiv, c1, xdup, xpop, xdup_x1, xdup2, xif, xicmp, xtab, xtabL, xget, xput, xald, xast, xalen, xnew, xnewa, c1s, recvOk, xcall, kont, xret, xlret, xfret, xdret, xaret, xvret, xs, xnewq, xastq, xcopy, xcopyF, xobj, xmax, xmin, xdead, xpushq, xmna, ls0, List.map_cons, List.map_nil, List.length_cons, List.length_nil, List.replicate, List.append_nil, List.cons_append, List.nil_append, List.getElem?_cons_zero, List.getElem?_cons_succ, List.getElem?_nil, List.set_cons_zero, List.set_cons_succ, List.take_succ_cons, List.take_zero, List.drop_succ_cons, List.drop_zero, List.reverse_cons, List.reverse_nil, List.sum_cons, List.sum_nil, Value.category, Option.toList_some, Option.toList_none, Nat.reduceAdd, Nat.reduceSub, Nat.reduceLT, Nat.reduceLeDiff, Nat.zero_add, Nat.le_refl, true_and, and_true, Nat.sub_zero, Nat.zero_lt_succ, Nat.zero_le, Nat.not_lt_zero, Nat.reduceEqDiff, Nat.one_ne_zero, nI_toInt, Int.reduceEq, Int.reduceAdd, Int.reduceLT, Int.reduceLE, Int.cast_ofNat_Int, reduceIte, or_false, false_or, eq_self, or_true, true_or, or_self, nI_clamp, vp_in_nI, nI_ltI, nI_leI, nI_eq, nI_add, nI_zero9, nI_nlt0, nI_le0, nI_lt0, arG, va_rf, not_false_eq_true, not_true_eq_false, false_implies, true_implies, implies_true, ne_eq, okv_int, okv_z0, okv_z1, okv_zN, okv_ref, okv_arr, okv_null, vn_z0, vn_z1, vn_zN, nr_int, nr_z, va_up_self, up_fr, rw1_j, rw1_up, h1]
  refine ⟨Nat.le_of_ble_eq_true rfl, Nat.le_of_ble_eq_true rfl, Nat.le_of_ble_eq_true rfl, Nat.le_of_ble_eq_true rfl, ?_⟩
  refine ⟨a + 1, rfl, by omega, va_up_self _ _ _, fun f1 g1 g2 fr1 => ?_⟩
  have b1 := fr1 a (by omega) (by omega)
  simp (disch := omega) only [up_fr, va_up_self, h1] at b1
  simp (disch := omega) only [q_X7_init_0, q_X7_init_1, q_X7_init_4, q_X7_init_5, q_X7_init_8, q_X7_init_9, q_X7_init_12, q_X7_init_15, q_X7_init_16, q_X7_init_17, q_X7_init_20, q_X7_init_21, q_X7_init_24, q_X7_init_27, q_X7_init_28, q_X7_init_29, q_X7_init_32, q_X7_init_33, q_X7_init_34, q_X7_init_37, q_X7_init_38, q_X7_init_39, q_X7_init_42, q_X7_init_43, q_X7_init_44, q_X7_init_47, xpush, xiload, xaload, xlload, xfload, xdload, lkill, xistore, xastore, xfstore, xlstore, xdstore, xiinc, xbin, xdiv, xun, xlbin, xi2l, xi2f, xi2d, xlcmp, xfcmp, xdcmp, xfdiv, xddiv, c1, xdup, xpop, xdup_x1, xdup2, xif, xicmp, xtab, xtabL, xget, xput, xald, xast, xalen, xnew, xnewa, c1s, recvOk, xcall, kont, xret, xlret, xfret, xdret, xaret, xvret, xs, xnewq, xastq, xcopy, xcopyF, xobj, xmax, xmin, xdead, xpushq, xmna, ls0, List.map_cons, List.map_nil, List.length_cons, List.length_nil, List.replicate, List.append_nil, List.cons_append, List.nil_append, List.getElem?_cons_zero, List.getElem?_cons_succ, List.getElem?_nil, List.set_cons_zero, List.set_cons_succ, List.take_succ_cons, List.take_zero, List.drop_succ_cons, List.drop_zero, List.reverse_cons, List.reverse_nil, List.sum_cons, List.sum_nil, Value.category, Option.toList_some, Option.toList_none, Nat.reduceAdd, Nat.reduceSub, Nat.reduceLT, Nat.reduceLeDiff, Nat.zero_add, Nat.le_refl, true_and, and_true, Nat.sub_zero, Nat.zero_lt_succ, Nat.zero_le, Nat.not_lt_zero, Nat.reduceEqDiff, Nat.one_ne_zero, nI_toInt, Int.reduceEq, Int.reduceAdd, Int.reduceLT, Int.reduceLE, Int.cast_ofNat_Int, reduceIte, or_false, false_or, eq_self, or_true, true_or, or_self, nI_clamp, vp_in_nI, nI_ltI, nI_leI, nI_eq, nI_add, nI_zero9, nI_nlt0, nI_le0, nI_lt0, arG, va_rf, not_false_eq_true, not_true_eq_false, false_implies, true_implies, implies_true, ne_eq, okv_int, okv_z0, okv_z1, okv_zN, okv_ref, okv_arr, okv_null, vn_z0, vn_z1, vn_zN, nr_int, nr_z, va_up_self, up_fr, rw1_j, rw1_up, b1]
  refine hK _ (va_up_self _ _ _) ?_ ?_ (fun q hq => by simp (disch := omega) only [up_fr]; exact (fr1 q (by omega) (by omega)).trans (by simp (disch := omega) only [up_fr]))
  · simp (disch := omega) only [up_fr]
    exact g1
  · simp (disch := omega) only [up_fr]
    exact g2)
abbrev Sp_X6_init : Spt := fun as z f K => ∃ (a : Nat), as = [.ref a] ∧ z = a + 1 ∧ f a = some (.inr (5, [.null, .int (nI 0), .int (nI 0)])) ∧ ∀ f', isPa f' a (fun _ => cmN) 0 0 → (∀ q, q < a → f' q = f q) → K none (a + 497) f'
def rm_X6_init : Room := { frames := 3, cells := 496, slots := 3969, locals := 60 }
def q_X6_init_50 (ls : Ls) (st : List Value) (z : Zz) (f : Fm) (E : Ej) (R : Kr) : Prop := xvret ls st z f E R
def q_X6_init_44 (ls : Ls) (st : List Value) (z : Zz) (f : Fm) (E : Ej) (R : Kr) : Prop := xiinc 1 (nI 1) (xs 25) ls st z f E R
def q_X6_init_43 (ls : Ls) (st : List Value) (z : Zz) (f : Fm) (E : Ej) (R : Kr) : Prop := xastq q_X6_init_44 ls st z f E R
def q_X6_init_40 (ls : Ls) (st : List Value) (z : Zz) (f : Fm) (E : Ej) (R : Kr) : Prop := xcall 1 2 Sp_X1_init 54 430 q_X6_init_43 ls st z f E R
def q_X6_init_39 (ls : Ls) (st : List Value) (z : Zz) (f : Fm) (E : Ej) (R : Kr) : Prop := xdup q_X6_init_40 ls st z f E R
def q_X6_init_36 (ls : Ls) (st : List Value) (z : Zz) (f : Fm) (E : Ej) (R : Kr) : Prop := xnew 1 10 [.null, .null, .null, .null, .int 0, .int 0, .int 0, .int 0, .int 0, .int 0] q_X6_init_39 ls st z f E R
def q_X6_init_35 (ls : Ls) (st : List Value) (z : Zz) (f : Fm) (E : Ej) (R : Kr) : Prop := xiload 1 q_X6_init_36 ls st z f E R
def q_X6_init_32 (ls : Ls) (st : List Value) (z : Zz) (f : Fm) (E : Ej) (R : Kr) : Prop := xget 5 0 q_X6_init_35 ls st z f E R
def q_X6_init_31 (ls : Ls) (st : List Value) (z : Zz) (f : Fm) (E : Ej) (R : Kr) : Prop := xaload 0 q_X6_init_32 ls st z f E R
def q_X6_init_28 (ls : Ls) (st : List Value) (z : Zz) (f : Fm) (E : Ej) (R : Kr) : Prop := xicmp (fun x y => y ≤ x) q_X6_init_50 q_X6_init_31 ls st z f E R
def q_X6_init_26 (ls : Ls) (st : List Value) (z : Zz) (f : Fm) (E : Ej) (R : Kr) : Prop := xpush (.int (nI 9)) q_X6_init_28 ls st z f E R
def q_X6_init_25 (ls : Ls) (st : List Value) (z : Zz) (f : Fm) (E : Ej) (R : Kr) : Prop := xiload 1 q_X6_init_26 ls st z f E R
def q_X6_init_24 (ls : Ls) (st : List Value) (z : Zz) (f : Fm) (E : Ej) (R : Kr) : Prop := xistore 1 (xs 25) ls st z f E R
def q_X6_init_23 (ls : Ls) (st : List Value) (z : Zz) (f : Fm) (E : Ej) (R : Kr) : Prop := xpush (.int (nI 0)) q_X6_init_24 ls st z f E R
def q_X6_init_20 (ls : Ls) (st : List Value) (z : Zz) (f : Fm) (E : Ej) (R : Kr) : Prop := xput 5 2 .int q_X6_init_23 ls st z f E R
def q_X6_init_19 (ls : Ls) (st : List Value) (z : Zz) (f : Fm) (E : Ej) (R : Kr) : Prop := xpush (.int (nI 0)) q_X6_init_20 ls st z f E R
def q_X6_init_18 (ls : Ls) (st : List Value) (z : Zz) (f : Fm) (E : Ej) (R : Kr) : Prop := xaload 0 q_X6_init_19 ls st z f E R
def q_X6_init_15 (ls : Ls) (st : List Value) (z : Zz) (f : Fm) (E : Ej) (R : Kr) : Prop := xput 5 1 .int q_X6_init_18 ls st z f E R
def q_X6_init_14 (ls : Ls) (st : List Value) (z : Zz) (f : Fm) (E : Ej) (R : Kr) : Prop := xpush (.int (nI 0)) q_X6_init_15 ls st z f E R
def q_X6_init_13 (ls : Ls) (st : List Value) (z : Zz) (f : Fm) (E : Ej) (R : Kr) : Prop := xaload 0 q_X6_init_14 ls st z f E R
def q_X6_init_10 (ls : Ls) (st : List Value) (z : Zz) (f : Fm) (E : Ej) (R : Kr) : Prop := xput 5 0 (.array (.object "FortHeralds$Country")) q_X6_init_13 ls st z f E R
def q_X6_init_7 (ls : Ls) (st : List Value) (z : Zz) (f : Fm) (E : Ej) (R : Kr) : Prop := xnewq q_X6_init_10 ls st z f E R
def q_X6_init_5 (ls : Ls) (st : List Value) (z : Zz) (f : Fm) (E : Ej) (R : Kr) : Prop := xpush (.int (nI 9)) q_X6_init_7 ls st z f E R
def q_X6_init_4 (ls : Ls) (st : List Value) (z : Zz) (f : Fm) (E : Ej) (R : Kr) : Prop := xaload 0 q_X6_init_5 ls st z f E R
def q_X6_init_1 (ls : Ls) (st : List Value) (z : Zz) (f : Fm) (E : Ej) (R : Kr) : Prop := xobj q_X6_init_4 ls st z f E R
def q_X6_init_0 (ls : Ls) (st : List Value) (z : Zz) (f : Fm) (E : Ej) (R : Kr) : Prop := xaload 0 q_X6_init_1 ls st z f E R
set_option maxRecDepth 100000 in
theorem t_X6_init {s0 : State} {D : va_G} {ids : Nat → ClassId} {V : Nat → Nat} {l : Launch} {K : Kr} {E : Ej} (G : GG s0 D ids V) (X : EnX s0 D ids l RX6 cX6_init 2 none "<init>" rm_X6_init K E) : Sd E K 0 q_X6_init_0 ∧ Sd E K 25 q_X6_init_25 := by
  have h50 : Sd E K 50 q_X6_init_50 := sd_vret X (by decide +kernel : decode cX6_init 50 = .ok (.return_, 1))
  have h47 : Sd E K 47 (xs 25) := sd_goto X (by decide +kernel : decode cX6_init 47 = .ok (.goto (-22), 3)) (by decide) (sd_s 25)
  have h44 : Sd E K 44 q_X6_init_44 := sd_iinc X (by decide +kernel : decode cX6_init 44 = .ok (.iinc 1 1, 3)) (by decide +kernel) h47
  have h43 : Sd E K 43 q_X6_init_43 := sd_astq X (by decide +kernel : decode cX6_init 43 = .ok (.aastore, 1)) h44
  have h40 : Sd E K 40 q_X6_init_40 := sd_callIN (n := 0) (ci := 1) X (ct_X1_init G) (by decide +kernel : decode cX6_init 40 = .ok (.invokespecial 24, 3)) wd_67 (G.nest_244) wd_66 wd_26 rfl (by decide +kernel) ⟨Nat.le_of_ble_eq_true rfl, Nat.le_of_ble_eq_true rfl⟩ h43
  have h39 : Sd E K 39 q_X6_init_39 := sd_dup X (by decide +kernel : decode cX6_init 39 = .ok (.dup, 1)) h40
  have h36 : Sd E K 36 q_X6_init_36 := sd_new X (by decide +kernel : decode cX6_init 36 = .ok (.new 11, 3)) ok_X1 (by decide) wd_242 wd_64 wd_26 h39
  have h35 : Sd E K 35 q_X6_init_35 := sd_iload_n X (by decide +kernel : decode cX6_init 35 = .ok (.iload_n 1, 1)) rfl h36
  have h32 : Sd E K 32 q_X6_init_32 := sd_get X (by decide +kernel : decode cX6_init 32 = .ok (.getfield 13, 3)) ok_X6 (Nat.le_of_ble_eq_true rfl) wd_245 h35
  have h31 : Sd E K 31 q_X6_init_31 := sd_aload_n X (by decide +kernel : decode cX6_init 31 = .ok (.aload_n 0, 1)) rfl h32
  have h28 : Sd E K 28 q_X6_init_28 := sd_icmp_ge X (by decide +kernel : decode cX6_init 28 = .ok (.if_icmp .ge 22, 3)) (by decide) h50 h31
  have h26 : Sd E K 26 q_X6_init_26 := sd_bipush X (by decide +kernel : decode cX6_init 26 = .ok (.bipush 9, 2)) (by decide +kernel) h28
  have h25 : Sd E K 25 q_X6_init_25 := sd_iload_n X (by decide +kernel : decode cX6_init 25 = .ok (.iload_n 1, 1)) rfl h26
  have h24 : Sd E K 24 q_X6_init_24 := sd_istore_n X (by decide +kernel : decode cX6_init 24 = .ok (.istore_n 1, 1)) rfl (sd_s 25)
  have h23 : Sd E K 23 q_X6_init_23 := sd_iconst X (by decide +kernel : decode cX6_init 23 = .ok (.iconst 0, 1)) (by decide +kernel) h24
  have h20 : Sd E K 20 q_X6_init_20 := sd_put X (by decide +kernel : decode cX6_init 20 = .ok (.putfield 21, 3)) ok_X6 (Nat.le_of_ble_eq_true rfl) rfl rfl wd_247 h23
  have h19 : Sd E K 19 q_X6_init_19 := sd_iconst X (by decide +kernel : decode cX6_init 19 = .ok (.iconst 0, 1)) (by decide +kernel) h20
  have h18 : Sd E K 18 q_X6_init_18 := sd_aload_n X (by decide +kernel : decode cX6_init 18 = .ok (.aload_n 0, 1)) rfl h19
  have h15 : Sd E K 15 q_X6_init_15 := sd_put X (by decide +kernel : decode cX6_init 15 = .ok (.putfield 17, 3)) ok_X6 (Nat.le_of_ble_eq_true rfl) rfl rfl wd_246 h18
  have h14 : Sd E K 14 q_X6_init_14 := sd_iconst X (by decide +kernel : decode cX6_init 14 = .ok (.iconst 0, 1)) (by decide +kernel) h15
  have h13 : Sd E K 13 q_X6_init_13 := sd_aload_n X (by decide +kernel : decode cX6_init 13 = .ok (.aload_n 0, 1)) rfl h14
  have h10 : Sd E K 10 q_X6_init_10 := sd_putF X (by decide +kernel : decode cX6_init 10 = .ok (.putfield 13, 3)) ok_X6 (Nat.le_of_ble_eq_true rfl) rfl rfl rfl wd_245 h13
  have h7 : Sd E K 7 q_X6_init_7 := sd_newq X (by decide +kernel : decode cX6_init 7 = .ok (.anewarray 11, 3)) wd_242 G.ao h10
  have h5 : Sd E K 5 q_X6_init_5 := sd_bipush X (by decide +kernel : decode cX6_init 5 = .ok (.bipush 9, 2)) (by decide +kernel) h7
  have h4 : Sd E K 4 q_X6_init_4 := sd_aload_n X (by decide +kernel : decode cX6_init 4 = .ok (.aload_n 0, 1)) rfl h5
  have h1 : Sd E K 1 q_X6_init_1 := sd_obj X (by decide +kernel : decode cX6_init 1 = .ok (.invokespecial 3, 3)) wd_241 (Nat.le_of_ble_eq_true rfl) (Nat.le_of_ble_eq_true rfl) h4
  have h0 : Sd E K 0 q_X6_init_0 := sd_aload_n X (by decide +kernel : decode cX6_init 0 = .ok (.aload_n 0, 1)) rfl h1
  exact ⟨h0, h25⟩
set_option maxHeartbeats 4000000 in
set_option maxRecDepth 100000 in
theorem ct_X6_init {s0 : State} {D : va_G} {ids : Nat → ClassId} {V : Nat → Nat} {l : Launch} (G : GG s0 D ids V) : CT s0 D ids l yX6_init cX6_init 2 none rm_X6_init Sp_X6_init := CT.of (by decide +kernel) G.k (by
  rintro as z f K E ⟨a, rfl, rfl, h1, hK⟩ X
  obtain ⟨t0, t25⟩ := t_X6_init G X
  refine ⟨Nat.le_of_ble_eq_true rfl, by simp [Value.category], t0 _ _ _ _ ?_⟩
  simp (disch := omega) only [q_X6_init_0, q_X6_init_1, q_X6_init_4, q_X6_init_5, q_X6_init_7, q_X6_init_10, q_X6_init_13, q_X6_init_14, q_X6_init_15, q_X6_init_18, q_X6_init_19, q_X6_init_20, q_X6_init_23, q_X6_init_24, q_X6_init_25, q_X6_init_26, q_X6_init_28, q_X6_init_31, q_X6_init_32, q_X6_init_35, q_X6_init_36, q_X6_init_39, q_X6_init_40, q_X6_init_43, q_X6_init_44, q_X6_init_50, xpush, xiload, xaload, xlload, xfload, xdload, lkill, xistore, xastore, xfstore, xlstore, xdstore, xiinc, xbin, xdiv, xun, xlbin, xi2l, xi2f, xi2d, xlcmp, xfcmp, xdcmp, xfdiv, xddiv, c1, xdup, xpop, xdup_x1, xdup2, xif, xicmp, xtab, xtabL, xget, xput, xald, xast, xalen, xnew, xnewa, c1s, recvOk, xcall, kont, xret, xlret, xfret, xdret, xaret, xvret, xs, xnewq, xastq, xcopy, xcopyF, xobj, xmax, xmin, xdead, xpushq, xmna, ls0, List.map_cons, List.map_nil, List.length_cons, List.length_nil, List.replicate, List.append_nil, List.cons_append, List.nil_append, List.getElem?_cons_zero, List.getElem?_cons_succ, List.getElem?_nil, List.set_cons_zero, List.set_cons_succ, List.take_succ_cons, List.take_zero, List.drop_succ_cons, List.drop_zero, List.reverse_cons, List.reverse_nil, List.sum_cons, List.sum_nil, Value.category, Option.toList_some, Option.toList_none, Nat.reduceAdd, Nat.reduceSub, Nat.reduceLT, Nat.reduceLeDiff, Nat.zero_add, Nat.le_refl, true_and, and_true, Nat.sub_zero, Nat.zero_lt_succ, Nat.zero_le, Nat.not_lt_zero, Nat.reduceEqDiff, Nat.one_ne_zero, nI_toInt, Int.reduceEq, Int.reduceAdd, Int.reduceLT, Int.reduceLE, Int.cast_ofNat_Int, reduceIte, or_false, false_or, eq_self, or_true, true_or, or_self, nI_clamp, vp_in_nI, nI_ltI, nI_leI, nI_eq, nI_add, nI_zero9, nI_nlt0, nI_le0, nI_lt0, arG, va_rf, not_false_eq_true, not_true_eq_false, false_implies, true_implies, implies_true, ne_eq, okv_int, okv_z0, okv_z1, okv_zN, okv_ref, okv_arr, okv_null, vn_z0, vn_z1, vn_zN, nr_int, nr_z, va_up_self, up_fr, rw1_j, rw1_up, h1]
  refine ⟨Nat.le_of_ble_eq_true rfl, Nat.le_of_ble_eq_true rfl, ?_⟩
  have key := dnR (N := 9) (R := fun i f' => f' a = some (.inr (5, [.ref (a + 1), .int (nI 0), .int (nI 0)])) ∧ f' (a + 1) = some (.inl (3, 9, .inr (fun j => if j < i then some (a + 2 + 55 * j) else none))) ∧ (∀ r, r < i → isCo f' (a + 2 + 55 * r) cmN) ∧ ∀ q, q < a → f' q = f q) (P := fun i f' => E 25 [some (.ref a), some (.int (nI i))] [] (a + 2 + 55 * i, 55 * (9 - i), 440 * (9 - i)) f') ?_ ?_ 0 (by omega)
  · refine en_room X (by show 55 * (9 - 0) ≤ _; exact Nat.le_of_ble_eq_true rfl) (by show 440 * (9 - 0) ≤ _; exact Nat.le_of_ble_eq_true rfl) (key _ ⟨va_up_self _ _ _, ?_, fun r hr => absurd hr (by omega), fun q hq => by simp (disch := omega) only [up_fr]⟩)
    simp (disch := omega) only [up_fr, va_up_self]
    refine congrArg some (congrArg Sum.inl ?_)
    simp
  · rintro f1 ⟨g1, g2, g3, fr1⟩
    refine t25 _ _ _ _ ?_
    simp (disch := omega) only [q_X6_init_0, q_X6_init_1, q_X6_init_4, q_X6_init_5, q_X6_init_7, q_X6_init_10, q_X6_init_13, q_X6_init_14, q_X6_init_15, q_X6_init_18, q_X6_init_19, q_X6_init_20, q_X6_init_23, q_X6_init_24, q_X6_init_25, q_X6_init_26, q_X6_init_28, q_X6_init_31, q_X6_init_32, q_X6_init_35, q_X6_init_36, q_X6_init_39, q_X6_init_40, q_X6_init_43, q_X6_init_44, q_X6_init_50, xpush, xiload, xaload, xlload, xfload, xdload, lkill, xistore, xastore, xfstore, xlstore, xdstore, xiinc, xbin, xdiv, xun, xlbin, xi2l, xi2f, xi2d, xlcmp, xfcmp, xdcmp, xfdiv, xddiv, c1, xdup, xpop, xdup_x1, xdup2, xif, xicmp, xtab, xtabL, xget, xput, xald, xast, xalen, xnew, xnewa, c1s, recvOk, xcall, kont, xret, xlret, xfret, xdret, xaret, xvret, xs, xnewq, xastq, xcopy, xcopyF, xobj, xmax, xmin, xdead, xpushq, xmna, ls0, List.map_cons, List.map_nil, List.length_cons, List.length_nil, List.replicate, List.append_nil, List.cons_append, List.nil_append, List.getElem?_cons_zero, List.getElem?_cons_succ, List.getElem?_nil, List.set_cons_zero, List.set_cons_succ, List.take_succ_cons, List.take_zero, List.drop_succ_cons, List.drop_zero, List.reverse_cons, List.reverse_nil, List.sum_cons, List.sum_nil, Value.category, Option.toList_some, Option.toList_none, Nat.reduceAdd, Nat.reduceSub, Nat.reduceLT, Nat.reduceLeDiff, Nat.zero_add, Nat.le_refl, true_and, and_true, Nat.sub_zero, Nat.zero_lt_succ, Nat.zero_le, Nat.not_lt_zero, Nat.reduceEqDiff, Nat.one_ne_zero, nI_toInt, Int.reduceEq, Int.reduceAdd, Int.reduceLT, Int.reduceLE, Int.cast_ofNat_Int, reduceIte, or_false, false_or, eq_self, or_true, true_or, or_self, nI_clamp, vp_in_nI, nI_ltI, nI_leI, nI_eq, nI_add, nI_zero9, nI_nlt0, nI_le0, nI_lt0, arG, va_rf, not_false_eq_true, not_true_eq_false, false_implies, true_implies, implies_true, ne_eq, okv_int, okv_z0, okv_z1, okv_zN, okv_ref, okv_arr, okv_null, vn_z0, vn_z1, vn_zN, nr_int, nr_z, va_up_self, up_fr, rw1_j, rw1_up]
    exact hK f1 ⟨g1, g2, g3⟩ fr1
  · rintro i hi ih f1 ⟨g1, g2, g3, fr1⟩
    refine t25 _ _ _ _ ?_
    simp (disch := omega) only [q_X6_init_0, q_X6_init_1, q_X6_init_4, q_X6_init_5, q_X6_init_7, q_X6_init_10, q_X6_init_13, q_X6_init_14, q_X6_init_15, q_X6_init_18, q_X6_init_19, q_X6_init_20, q_X6_init_23, q_X6_init_24, q_X6_init_25, q_X6_init_26, q_X6_init_28, q_X6_init_31, q_X6_init_32, q_X6_init_35, q_X6_init_36, q_X6_init_39, q_X6_init_40, q_X6_init_43, q_X6_init_44, q_X6_init_50, xpush, xiload, xaload, xlload, xfload, xdload, lkill, xistore, xastore, xfstore, xlstore, xdstore, xiinc, xbin, xdiv, xun, xlbin, xi2l, xi2f, xi2d, xlcmp, xfcmp, xdcmp, xfdiv, xddiv, c1, xdup, xpop, xdup_x1, xdup2, xif, xicmp, xtab, xtabL, xget, xput, xald, xast, xalen, xnew, xnewa, c1s, recvOk, xcall, kont, xret, xlret, xfret, xdret, xaret, xvret, xs, xnewq, xastq, xcopy, xcopyF, xobj, xmax, xmin, xdead, xpushq, xmna, ls0, List.map_cons, List.map_nil, List.length_cons, List.length_nil, List.replicate, List.append_nil, List.cons_append, List.nil_append, List.getElem?_cons_zero, List.getElem?_cons_succ, List.getElem?_nil, List.set_cons_zero, List.set_cons_succ, List.take_succ_cons, List.take_zero, List.drop_succ_cons, List.drop_zero, List.reverse_cons, List.reverse_nil, List.sum_cons, List.sum_nil, Value.category, Option.toList_some, Option.toList_none, Nat.reduceAdd, Nat.reduceSub, Nat.reduceLT, Nat.reduceLeDiff, Nat.zero_add, Nat.le_refl, true_and, and_true, Nat.sub_zero, Nat.zero_lt_succ, Nat.zero_le, Nat.not_lt_zero, Nat.reduceEqDiff, Nat.one_ne_zero, nI_toInt, Int.reduceEq, Int.reduceAdd, Int.reduceLT, Int.reduceLE, Int.cast_ofNat_Int, reduceIte, or_false, false_or, eq_self, or_true, true_or, or_self, nI_clamp, vp_in_nI, nI_ltI, nI_leI, nI_eq, nI_add, nI_zero9, nI_nlt0, nI_le0, nI_lt0, arG, va_rf, not_false_eq_true, not_true_eq_false, false_implies, true_implies, implies_true, ne_eq, okv_int, okv_z0, okv_z1, okv_zN, okv_ref, okv_arr, okv_null, vn_z0, vn_z1, vn_zN, nr_int, nr_z, va_up_self, up_fr, rw1_j, rw1_up, g1, g2, hi, Nat.not_le.mpr hi]
    refine ⟨by omega, by omega, by omega, by omega, ?_⟩
    refine ⟨a + 2 + 55 * i, rfl, rfl, va_up_self _ _ _, fun f2 k1 fr2 => ?_⟩
    have b1 : f2 (a + 1) = _ := (fr2 _ (by omega)).trans ((up_fr (by omega)).trans g2)
    simp (disch := omega) only [q_X6_init_0, q_X6_init_1, q_X6_init_4, q_X6_init_5, q_X6_init_7, q_X6_init_10, q_X6_init_13, q_X6_init_14, q_X6_init_15, q_X6_init_18, q_X6_init_19, q_X6_init_20, q_X6_init_23, q_X6_init_24, q_X6_init_25, q_X6_init_26, q_X6_init_28, q_X6_init_31, q_X6_init_32, q_X6_init_35, q_X6_init_36, q_X6_init_39, q_X6_init_40, q_X6_init_43, q_X6_init_44, q_X6_init_50, xpush, xiload, xaload, xlload, xfload, xdload, lkill, xistore, xastore, xfstore, xlstore, xdstore, xiinc, xbin, xdiv, xun, xlbin, xi2l, xi2f, xi2d, xlcmp, xfcmp, xdcmp, xfdiv, xddiv, c1, xdup, xpop, xdup_x1, xdup2, xif, xicmp, xtab, xtabL, xget, xput, xald, xast, xalen, xnew, xnewa, c1s, recvOk, xcall, kont, xret, xlret, xfret, xdret, xaret, xvret, xs, xnewq, xastq, xcopy, xcopyF, xobj, xmax, xmin, xdead, xpushq, xmna, ls0, List.map_cons, List.map_nil, List.length_cons, List.length_nil, List.replicate, List.append_nil, List.cons_append, List.nil_append, List.getElem?_cons_zero, List.getElem?_cons_succ, List.getElem?_nil, List.set_cons_zero, List.set_cons_succ, List.take_succ_cons, List.take_zero, List.drop_succ_cons, List.drop_zero, List.reverse_cons, List.reverse_nil, List.sum_cons, List.sum_nil, Value.category, Option.toList_some, Option.toList_none, Nat.reduceAdd, Nat.reduceSub, Nat.reduceLT, Nat.reduceLeDiff, Nat.zero_add, Nat.le_refl, true_and, and_true, Nat.sub_zero, Nat.zero_lt_succ, Nat.zero_le, Nat.not_lt_zero, Nat.reduceEqDiff, Nat.one_ne_zero, nI_toInt, Int.reduceEq, Int.reduceAdd, Int.reduceLT, Int.reduceLE, Int.cast_ofNat_Int, reduceIte, or_false, false_or, eq_self, or_true, true_or, or_self, nI_clamp, vp_in_nI, nI_ltI, nI_leI, nI_eq, nI_add, nI_zero9, nI_nlt0, nI_le0, nI_lt0, arG, va_rf, not_false_eq_true, not_true_eq_false, false_implies, true_implies, implies_true, ne_eq, okv_int, okv_z0, okv_z1, okv_zN, okv_ref, okv_arr, okv_null, vn_z0, vn_z1, vn_zN, nr_int, nr_z, va_up_self, up_fr, rw1_j, rw1_up, k1.1, b1, hi]
    refine ⟨⟨_, rfl⟩, ?_⟩
    refine en_room X (by show 55 * (9 - (i + 1)) ≤ _; omega) (by show 440 * (9 - (i + 1)) ≤ _; omega) (ih _ ⟨?_, ?_, fun r hr => ?_, fun q hq => ?_⟩)
    · simp (disch := omega) only [up_fr]
      exact (fr2 _ (by omega)).trans ((up_fr (by omega)).trans g1)
    · rw [va_up_self]
      refine congrArg some (congrArg Sum.inl (congrArg (Prod.mk 3) (congrArg (Prod.mk 9) (congrArg Sum.inr (funext fun j => ?_)))))
      unfold va_up
      by_cases e : j = i
      · subst e
        simp
      · by_cases e2 : j < i
        · simp [e, e2, Nat.lt_succ_of_lt e2]
        · simp [e, e2, show ¬ j < i + 1 by omega]
    · by_cases e : r = i
      · subst e
        exact k1.fr (fun q h1 h2 => up_fr (by omega))
      · exact (g3 r (by omega)).fr (fun q h1 h2 => (up_fr (by omega)).trans ((fr2 q (by omega)).trans (up_fr (by omega))))
    · exact (up_fr (by omega)).trans ((fr2 q (by omega)).trans ((up_fr (by omega)).trans (fr1 q hq))))
abbrev Sp_X12_init (V : Nat → Nat) : Spt := fun as z f K => ∃ (b : Nat), as = [.ref b] ∧ z = b + 1 ∧ f b = some (.inr (11, [.null, .null, .null, .null, .null, .null, .null, .null, .null, .null, .int (nI 0)])) ∧ csF V f b ∧ ∀ f', isO V f' b (b + 714) cmN (-15) (-15) [] none [] [] → (∀ q, q < b → f' q = f q) → K none (b + 714) f'
def rm_X12_init : Room := { frames := 4, cells := 713, slots := 5685, locals := 81 }
def q_X12_init_119 (V : Nat → Nat) (ls : Ls) (st : List Value) (z : Zz) (f : Fm) (E : Ej) (R : Kr) : Prop := xvret ls st z f E R
def q_X12_init_116 (V : Nat → Nat) (ls : Ls) (st : List Value) (z : Zz) (f : Fm) (E : Ej) (R : Kr) : Prop := xput 11 10 .boolean (q_X12_init_119 V) ls st z f E R
def q_X12_init_115 (V : Nat → Nat) (ls : Ls) (st : List Value) (z : Zz) (f : Fm) (E : Ej) (R : Kr) : Prop := xpush (.int (nI 0)) (q_X12_init_116 V) ls st z f E R
def q_X12_init_114 (V : Nat → Nat) (ls : Ls) (st : List Value) (z : Zz) (f : Fm) (E : Ej) (R : Kr) : Prop := xaload 0 (q_X12_init_115 V) ls st z f E R
def q_X12_init_111 (V : Nat → Nat) (ls : Ls) (st : List Value) (z : Zz) (f : Fm) (E : Ej) (R : Kr) : Prop := xput 11 9 (.object "java/lang/StringBuilder") (q_X12_init_114 V) ls st z f E R
def q_X12_init_108 (V : Nat → Nat) (ls : Ls) (st : List Value) (z : Zz) (f : Fm) (E : Ej) (R : Kr) : Prop := xcall 1 1 Sp_J4_init_da8c8 1 16 (q_X12_init_111 V) ls st z f E R
def q_X12_init_107 (V : Nat → Nat) (ls : Ls) (st : List Value) (z : Zz) (f : Fm) (E : Ej) (R : Kr) : Prop := xdup (q_X12_init_108 V) ls st z f E R
def q_X12_init_104 (V : Nat → Nat) (ls : Ls) (st : List Value) (z : Zz) (f : Fm) (E : Ej) (R : Kr) : Prop := xnew 0 4 [.null, .int 0, .int 0, .int 0] (q_X12_init_107 V) ls st z f E R
def q_X12_init_103 (V : Nat → Nat) (ls : Ls) (st : List Value) (z : Zz) (f : Fm) (E : Ej) (R : Kr) : Prop := xaload 0 (q_X12_init_104 V) ls st z f E R
def q_X12_init_100 (V : Nat → Nat) (ls : Ls) (st : List Value) (z : Zz) (f : Fm) (E : Ej) (R : Kr) : Prop := xput 11 8 (.object "java/lang/StringBuilder") (q_X12_init_103 V) ls st z f E R
def q_X12_init_97 (V : Nat → Nat) (ls : Ls) (st : List Value) (z : Zz) (f : Fm) (E : Ej) (R : Kr) : Prop := xget 6 0 (q_X12_init_100 V) ls st z f E R
def q_X12_init_94 (V : Nat → Nat) (ls : Ls) (st : List Value) (z : Zz) (f : Fm) (E : Ej) (R : Kr) : Prop := xget 11 7 (q_X12_init_97 V) ls st z f E R
def q_X12_init_93 (V : Nat → Nat) (ls : Ls) (st : List Value) (z : Zz) (f : Fm) (E : Ej) (R : Kr) : Prop := xaload 0 (q_X12_init_94 V) ls st z f E R
def q_X12_init_92 (V : Nat → Nat) (ls : Ls) (st : List Value) (z : Zz) (f : Fm) (E : Ej) (R : Kr) : Prop := xaload 0 (q_X12_init_93 V) ls st z f E R
def q_X12_init_89 (V : Nat → Nat) (ls : Ls) (st : List Value) (z : Zz) (f : Fm) (E : Ej) (R : Kr) : Prop := xput 11 7 (.object "FortHeralds$Reader") (q_X12_init_92 V) ls st z f E R
def q_X12_init_86 (V : Nat → Nat) (ls : Ls) (st : List Value) (z : Zz) (f : Fm) (E : Ej) (R : Kr) : Prop := xcall 1 7 (Sp_X7_init V) 2 20 (q_X12_init_89 V) ls st z f E R
def q_X12_init_85 (V : Nat → Nat) (ls : Ls) (st : List Value) (z : Zz) (f : Fm) (E : Ej) (R : Kr) : Prop := xdup (q_X12_init_86 V) ls st z f E R
def q_X12_init_82 (V : Nat → Nat) (ls : Ls) (st : List Value) (z : Zz) (f : Fm) (E : Ej) (R : Kr) : Prop := xnew 6 7 [.null, .int 0, .null, .int 0, .int 0, .int 0, .int 0] (q_X12_init_85 V) ls st z f E R
def q_X12_init_81 (V : Nat → Nat) (ls : Ls) (st : List Value) (z : Zz) (f : Fm) (E : Ej) (R : Kr) : Prop := xaload 0 (q_X12_init_82 V) ls st z f E R
def q_X12_init_78 (V : Nat → Nat) (ls : Ls) (st : List Value) (z : Zz) (f : Fm) (E : Ej) (R : Kr) : Prop := xput 11 6 (.object "FortHeralds$Trail") (q_X12_init_81 V) ls st z f E R
def q_X12_init_75 (V : Nat → Nat) (ls : Ls) (st : List Value) (z : Zz) (f : Fm) (E : Ej) (R : Kr) : Prop := xcall 1 10 Sp_X10_init 2 16 (q_X12_init_78 V) ls st z f E R
def q_X12_init_74 (V : Nat → Nat) (ls : Ls) (st : List Value) (z : Zz) (f : Fm) (E : Ej) (R : Kr) : Prop := xdup (q_X12_init_75 V) ls st z f E R
def q_X12_init_71 (V : Nat → Nat) (ls : Ls) (st : List Value) (z : Zz) (f : Fm) (E : Ej) (R : Kr) : Prop := xnew 9 6 [.null, .null, .int 0, .int 0, .int 0, .int 0] (q_X12_init_74 V) ls st z f E R
def q_X12_init_70 (V : Nat → Nat) (ls : Ls) (st : List Value) (z : Zz) (f : Fm) (E : Ej) (R : Kr) : Prop := xaload 0 (q_X12_init_71 V) ls st z f E R
def q_X12_init_67 (V : Nat → Nat) (ls : Ls) (st : List Value) (z : Zz) (f : Fm) (E : Ej) (R : Kr) : Prop := xput 11 5 (.object "FortHeralds$Distances") (q_X12_init_70 V) ls st z f E R
def q_X12_init_64 (V : Nat → Nat) (ls : Ls) (st : List Value) (z : Zz) (f : Fm) (E : Ej) (R : Kr) : Prop := xcall 1 3 Sp_X2_init 3 24 (q_X12_init_67 V) ls st z f E R
def q_X12_init_63 (V : Nat → Nat) (ls : Ls) (st : List Value) (z : Zz) (f : Fm) (E : Ej) (R : Kr) : Prop := xdup (q_X12_init_64 V) ls st z f E R
def q_X12_init_60 (V : Nat → Nat) (ls : Ls) (st : List Value) (z : Zz) (f : Fm) (E : Ej) (R : Kr) : Prop := xnew 2 3 [.null, .null, .null] (q_X12_init_63 V) ls st z f E R
def q_X12_init_59 (V : Nat → Nat) (ls : Ls) (st : List Value) (z : Zz) (f : Fm) (E : Ej) (R : Kr) : Prop := xaload 0 (q_X12_init_60 V) ls st z f E R
def q_X12_init_56 (V : Nat → Nat) (ls : Ls) (st : List Value) (z : Zz) (f : Fm) (E : Ej) (R : Kr) : Prop := xput 11 4 (.object "FortHeralds$Past") (q_X12_init_59 V) ls st z f E R
def q_X12_init_53 (V : Nat → Nat) (ls : Ls) (st : List Value) (z : Zz) (f : Fm) (E : Ej) (R : Kr) : Prop := xcall 1 6 Sp_X6_init 496 3969 (q_X12_init_56 V) ls st z f E R
def q_X12_init_52 (V : Nat → Nat) (ls : Ls) (st : List Value) (z : Zz) (f : Fm) (E : Ej) (R : Kr) : Prop := xdup (q_X12_init_53 V) ls st z f E R
def q_X12_init_49 (V : Nat → Nat) (ls : Ls) (st : List Value) (z : Zz) (f : Fm) (E : Ej) (R : Kr) : Prop := xnew 5 3 [.null, .int 0, .int 0] (q_X12_init_52 V) ls st z f E R
def q_X12_init_48 (V : Nat → Nat) (ls : Ls) (st : List Value) (z : Zz) (f : Fm) (E : Ej) (R : Kr) : Prop := xaload 0 (q_X12_init_49 V) ls st z f E R
def q_X12_init_45 (V : Nat → Nat) (ls : Ls) (st : List Value) (z : Zz) (f : Fm) (E : Ej) (R : Kr) : Prop := xput 11 3 (.object "FortHeralds$Country") (q_X12_init_48 V) ls st z f E R
def q_X12_init_42 (V : Nat → Nat) (ls : Ls) (st : List Value) (z : Zz) (f : Fm) (E : Ej) (R : Kr) : Prop := xcall 1 2 Sp_X1_init 54 430 (q_X12_init_45 V) ls st z f E R
def q_X12_init_41 (V : Nat → Nat) (ls : Ls) (st : List Value) (z : Zz) (f : Fm) (E : Ej) (R : Kr) : Prop := xdup (q_X12_init_42 V) ls st z f E R
def q_X12_init_38 (V : Nat → Nat) (ls : Ls) (st : List Value) (z : Zz) (f : Fm) (E : Ej) (R : Kr) : Prop := xnew 1 10 [.null, .null, .null, .null, .int 0, .int 0, .int 0, .int 0, .int 0, .int 0] (q_X12_init_41 V) ls st z f E R
def q_X12_init_37 (V : Nat → Nat) (ls : Ls) (st : List Value) (z : Zz) (f : Fm) (E : Ej) (R : Kr) : Prop := xaload 0 (q_X12_init_38 V) ls st z f E R
def q_X12_init_34 (V : Nat → Nat) (ls : Ls) (st : List Value) (z : Zz) (f : Fm) (E : Ej) (R : Kr) : Prop := xput 11 2 (.object "FortHeralds$Country") (q_X12_init_37 V) ls st z f E R
def q_X12_init_31 (V : Nat → Nat) (ls : Ls) (st : List Value) (z : Zz) (f : Fm) (E : Ej) (R : Kr) : Prop := xcall 1 2 Sp_X1_init 54 430 (q_X12_init_34 V) ls st z f E R
def q_X12_init_30 (V : Nat → Nat) (ls : Ls) (st : List Value) (z : Zz) (f : Fm) (E : Ej) (R : Kr) : Prop := xdup (q_X12_init_31 V) ls st z f E R
def q_X12_init_27 (V : Nat → Nat) (ls : Ls) (st : List Value) (z : Zz) (f : Fm) (E : Ej) (R : Kr) : Prop := xnew 1 10 [.null, .null, .null, .null, .int 0, .int 0, .int 0, .int 0, .int 0, .int 0] (q_X12_init_30 V) ls st z f E R
def q_X12_init_26 (V : Nat → Nat) (ls : Ls) (st : List Value) (z : Zz) (f : Fm) (E : Ej) (R : Kr) : Prop := xaload 0 (q_X12_init_27 V) ls st z f E R
def q_X12_init_23 (V : Nat → Nat) (ls : Ls) (st : List Value) (z : Zz) (f : Fm) (E : Ej) (R : Kr) : Prop := xput 11 1 (.object "FortHeralds$Country") (q_X12_init_26 V) ls st z f E R
def q_X12_init_20 (V : Nat → Nat) (ls : Ls) (st : List Value) (z : Zz) (f : Fm) (E : Ej) (R : Kr) : Prop := xget 10 0 (q_X12_init_23 V) ls st z f E R
def q_X12_init_17 (V : Nat → Nat) (ls : Ls) (st : List Value) (z : Zz) (f : Fm) (E : Ej) (R : Kr) : Prop := xget 11 0 (q_X12_init_20 V) ls st z f E R
def q_X12_init_16 (V : Nat → Nat) (ls : Ls) (st : List Value) (z : Zz) (f : Fm) (E : Ej) (R : Kr) : Prop := xaload 0 (q_X12_init_17 V) ls st z f E R
def q_X12_init_15 (V : Nat → Nat) (ls : Ls) (st : List Value) (z : Zz) (f : Fm) (E : Ej) (R : Kr) : Prop := xaload 0 (q_X12_init_16 V) ls st z f E R
def q_X12_init_12 (V : Nat → Nat) (ls : Ls) (st : List Value) (z : Zz) (f : Fm) (E : Ej) (R : Kr) : Prop := xput 11 0 (.object "FortHeralds$Works") (q_X12_init_15 V) ls st z f E R
def q_X12_init_9 (V : Nat → Nat) (ls : Ls) (st : List Value) (z : Zz) (f : Fm) (E : Ej) (R : Kr) : Prop := xcall 1 11 Sp_X11_init 93 733 (q_X12_init_12 V) ls st z f E R
def q_X12_init_8 (V : Nat → Nat) (ls : Ls) (st : List Value) (z : Zz) (f : Fm) (E : Ej) (R : Kr) : Prop := xdup (q_X12_init_9 V) ls st z f E R
def q_X12_init_5 (V : Nat → Nat) (ls : Ls) (st : List Value) (z : Zz) (f : Fm) (E : Ej) (R : Kr) : Prop := xnew 10 4 [.null, .null, .int 0, .int 0] (q_X12_init_8 V) ls st z f E R
def q_X12_init_4 (V : Nat → Nat) (ls : Ls) (st : List Value) (z : Zz) (f : Fm) (E : Ej) (R : Kr) : Prop := xaload 0 (q_X12_init_5 V) ls st z f E R
def q_X12_init_1 (V : Nat → Nat) (ls : Ls) (st : List Value) (z : Zz) (f : Fm) (E : Ej) (R : Kr) : Prop := xobj (q_X12_init_4 V) ls st z f E R
def q_X12_init_0 (V : Nat → Nat) (ls : Ls) (st : List Value) (z : Zz) (f : Fm) (E : Ej) (R : Kr) : Prop := xaload 0 (q_X12_init_1 V) ls st z f E R
set_option maxRecDepth 100000 in
theorem t_X12_init {s0 : State} {D : va_G} {ids : Nat → ClassId} {V : Nat → Nat} {l : Launch} {K : Kr} {E : Ej} (G : GG s0 D ids V) (X : EnX s0 D ids l RX12 cX12_init 1 none "<init>" rm_X12_init K E) : Sd E K 0 (q_X12_init_0 V) := by
  have h119 : Sd E K 119 (q_X12_init_119 V) := sd_vret X (by decide +kernel : decode cX12_init 119 = .ok (.return_, 1))
  have h116 : Sd E K 116 (q_X12_init_116 V) := sd_put X (by decide +kernel : decode cX12_init 116 = .ok (.putfield 69, 3)) ok_X12 (Nat.le_of_ble_eq_true rfl) rfl rfl wd_384 h119
  have h115 : Sd E K 115 (q_X12_init_115 V) := sd_iconst X (by decide +kernel : decode cX12_init 115 = .ok (.iconst 0, 1)) (by decide +kernel) h116
  have h114 : Sd E K 114 (q_X12_init_114 V) := sd_aload_n X (by decide +kernel : decode cX12_init 114 = .ok (.aload_n 0, 1)) rfl h115
  have h111 : Sd E K 111 (q_X12_init_111 V) := sd_putF X (by decide +kernel : decode cX12_init 111 = .ok (.putfield 66, 3)) ok_X12 (Nat.le_of_ble_eq_true rfl) rfl rfl rfl wd_383 h114
  have h108 : Sd E K 108 (q_X12_init_108 V) := sd_callI (n := 0) (ci := 0) X (ct_J4_init_da8c8 G) (by decide +kernel : decode cX12_init 108 = .ok (.invokespecial 65, 3)) wd_314 wd_373 wd_313 wd_36 rfl (by decide +kernel) ⟨Nat.le_of_ble_eq_true rfl, Nat.le_of_ble_eq_true rfl⟩ h111
  have h107 : Sd E K 107 (q_X12_init_107 V) := sd_dup X (by decide +kernel : decode cX12_init 107 = .ok (.dup, 1)) h108
  have h104 : Sd E K 104 (q_X12_init_104 V) := sd_new X (by decide +kernel : decode cX12_init 104 = .ok (.new 63, 3)) ok_J4 (by decide) wd_372 wd_311 wd_36 h107
  have h103 : Sd E K 103 (q_X12_init_103 V) := sd_aload_n X (by decide +kernel : decode cX12_init 103 = .ok (.aload_n 0, 1)) rfl h104
  have h100 : Sd E K 100 (q_X12_init_100 V) := sd_putF X (by decide +kernel : decode cX12_init 100 = .ok (.putfield 62, 3)) ok_X12 (Nat.le_of_ble_eq_true rfl) rfl rfl rfl wd_382 h103
  have h97 : Sd E K 97 (q_X12_init_97 V) := sd_get X (by decide +kernel : decode cX12_init 97 = .ok (.getfield 58, 3)) ok_X7 (Nat.le_of_ble_eq_true rfl) wd_345 h100
  have h94 : Sd E K 94 (q_X12_init_94 V) := sd_get X (by decide +kernel : decode cX12_init 94 = .ok (.getfield 54, 3)) ok_X12 (Nat.le_of_ble_eq_true rfl) wd_381 h97
  have h93 : Sd E K 93 (q_X12_init_93 V) := sd_aload_n X (by decide +kernel : decode cX12_init 93 = .ok (.aload_n 0, 1)) rfl h94
  have h92 : Sd E K 92 (q_X12_init_92 V) := sd_aload_n X (by decide +kernel : decode cX12_init 92 = .ok (.aload_n 0, 1)) rfl h93
  have h89 : Sd E K 89 (q_X12_init_89 V) := sd_putF X (by decide +kernel : decode cX12_init 89 = .ok (.putfield 54, 3)) ok_X12 (Nat.le_of_ble_eq_true rfl) rfl rfl rfl wd_381 h92
  have h86 : Sd E K 86 (q_X12_init_86 V) := sd_callIN (n := 0) (ci := 6) X (ct_X7_init G) (by decide +kernel : decode cX12_init 86 = .ok (.invokespecial 53, 3)) wd_308 (G.nest_306) wd_307 wd_34 rfl (by decide +kernel) ⟨Nat.le_of_ble_eq_true rfl, Nat.le_of_ble_eq_true rfl⟩ h89
  have h85 : Sd E K 85 (q_X12_init_85 V) := sd_dup X (by decide +kernel : decode cX12_init 85 = .ok (.dup, 1)) h86
  have h82 : Sd E K 82 (q_X12_init_82 V) := sd_new X (by decide +kernel : decode cX12_init 82 = .ok (.new 51, 3)) ok_X7 (by decide) wd_304 wd_305 wd_34 h85
  have h81 : Sd E K 81 (q_X12_init_81 V) := sd_aload_n X (by decide +kernel : decode cX12_init 81 = .ok (.aload_n 0, 1)) rfl h82
  have h78 : Sd E K 78 (q_X12_init_78 V) := sd_putF X (by decide +kernel : decode cX12_init 78 = .ok (.putfield 47, 3)) ok_X12 (Nat.le_of_ble_eq_true rfl) rfl rfl rfl wd_380 h81
  have h75 : Sd E K 75 (q_X12_init_75 V) := sd_callIN (n := 0) (ci := 9) X (ct_X10_init G) (by decide +kernel : decode cX12_init 75 = .ok (.invokespecial 46, 3)) wd_278 (G.nest_276) wd_277 wd_33 rfl (by decide +kernel) ⟨Nat.le_of_ble_eq_true rfl, Nat.le_of_ble_eq_true rfl⟩ h78
  have h74 : Sd E K 74 (q_X12_init_74 V) := sd_dup X (by decide +kernel : decode cX12_init 74 = .ok (.dup, 1)) h75
  have h71 : Sd E K 71 (q_X12_init_71 V) := sd_new X (by decide +kernel : decode cX12_init 71 = .ok (.new 44, 3)) ok_X10 (by decide) wd_274 wd_275 wd_33 h74
  have h70 : Sd E K 70 (q_X12_init_70 V) := sd_aload_n X (by decide +kernel : decode cX12_init 70 = .ok (.aload_n 0, 1)) rfl h71
  have h67 : Sd E K 67 (q_X12_init_67 V) := sd_putF X (by decide +kernel : decode cX12_init 67 = .ok (.putfield 40, 3)) ok_X12 (Nat.le_of_ble_eq_true rfl) rfl rfl rfl wd_379 h70
  have h64 : Sd E K 64 (q_X12_init_64 V) := sd_callIN (n := 0) (ci := 2) X (ct_X2_init G) (by decide +kernel : decode cX12_init 64 = .ok (.invokespecial 39, 3)) wd_260 (G.nest_258) wd_259 wd_32 rfl (by decide +kernel) ⟨Nat.le_of_ble_eq_true rfl, Nat.le_of_ble_eq_true rfl⟩ h67
  have h63 : Sd E K 63 (q_X12_init_63 V) := sd_dup X (by decide +kernel : decode cX12_init 63 = .ok (.dup, 1)) h64
  have h60 : Sd E K 60 (q_X12_init_60 V) := sd_new X (by decide +kernel : decode cX12_init 60 = .ok (.new 37, 3)) ok_X2 (by decide) wd_256 wd_257 wd_32 h63
  have h59 : Sd E K 59 (q_X12_init_59 V) := sd_aload_n X (by decide +kernel : decode cX12_init 59 = .ok (.aload_n 0, 1)) rfl h60
  have h56 : Sd E K 56 (q_X12_init_56 V) := sd_putF X (by decide +kernel : decode cX12_init 56 = .ok (.putfield 33, 3)) ok_X12 (Nat.le_of_ble_eq_true rfl) rfl rfl rfl wd_378 h59
  have h53 : Sd E K 53 (q_X12_init_53 V) := sd_callI (n := 0) (ci := 5) X (ct_X6_init G) (by decide +kernel : decode cX12_init 53 = .ok (.invokespecial 32, 3)) wd_240 wd_238 wd_239 wd_31 rfl (by decide +kernel) ⟨Nat.le_of_ble_eq_true rfl, Nat.le_of_ble_eq_true rfl⟩ h56
  have h52 : Sd E K 52 (q_X12_init_52 V) := sd_dup X (by decide +kernel : decode cX12_init 52 = .ok (.dup, 1)) h53
  have h49 : Sd E K 49 (q_X12_init_49 V) := sd_new X (by decide +kernel : decode cX12_init 49 = .ok (.new 30, 3)) ok_X6 (by decide) wd_236 wd_237 wd_31 h52
  have h48 : Sd E K 48 (q_X12_init_48 V) := sd_aload_n X (by decide +kernel : decode cX12_init 48 = .ok (.aload_n 0, 1)) rfl h49
  have h45 : Sd E K 45 (q_X12_init_45 V) := sd_putF X (by decide +kernel : decode cX12_init 45 = .ok (.putfield 27, 3)) ok_X12 (Nat.le_of_ble_eq_true rfl) rfl rfl rfl wd_377 h48
  have h42 : Sd E K 42 (q_X12_init_42 V) := sd_callIN (n := 0) (ci := 1) X (ct_X1_init G) (by decide +kernel : decode cX12_init 42 = .ok (.invokespecial 23, 3)) wd_67 (G.nest_235) wd_66 wd_26 rfl (by decide +kernel) ⟨Nat.le_of_ble_eq_true rfl, Nat.le_of_ble_eq_true rfl⟩ h45
  have h41 : Sd E K 41 (q_X12_init_41 V) := sd_dup X (by decide +kernel : decode cX12_init 41 = .ok (.dup, 1)) h42
  have h38 : Sd E K 38 (q_X12_init_38 V) := sd_new X (by decide +kernel : decode cX12_init 38 = .ok (.new 21, 3)) ok_X1 (by decide) wd_234 wd_64 wd_26 h41
  have h37 : Sd E K 37 (q_X12_init_37 V) := sd_aload_n X (by decide +kernel : decode cX12_init 37 = .ok (.aload_n 0, 1)) rfl h38
  have h34 : Sd E K 34 (q_X12_init_34 V) := sd_putF X (by decide +kernel : decode cX12_init 34 = .ok (.putfield 24, 3)) ok_X12 (Nat.le_of_ble_eq_true rfl) rfl rfl rfl wd_376 h37
  have h31 : Sd E K 31 (q_X12_init_31 V) := sd_callIN (n := 0) (ci := 1) X (ct_X1_init G) (by decide +kernel : decode cX12_init 31 = .ok (.invokespecial 23, 3)) wd_67 (G.nest_235) wd_66 wd_26 rfl (by decide +kernel) ⟨Nat.le_of_ble_eq_true rfl, Nat.le_of_ble_eq_true rfl⟩ h34
  have h30 : Sd E K 30 (q_X12_init_30 V) := sd_dup X (by decide +kernel : decode cX12_init 30 = .ok (.dup, 1)) h31
  have h27 : Sd E K 27 (q_X12_init_27 V) := sd_new X (by decide +kernel : decode cX12_init 27 = .ok (.new 21, 3)) ok_X1 (by decide) wd_234 wd_64 wd_26 h30
  have h26 : Sd E K 26 (q_X12_init_26 V) := sd_aload_n X (by decide +kernel : decode cX12_init 26 = .ok (.aload_n 0, 1)) rfl h27
  have h23 : Sd E K 23 (q_X12_init_23 V) := sd_putF X (by decide +kernel : decode cX12_init 23 = .ok (.putfield 20, 3)) ok_X12 (Nat.le_of_ble_eq_true rfl) rfl rfl rfl wd_375 h26
  have h20 : Sd E K 20 (q_X12_init_20 V) := sd_get X (by decide +kernel : decode cX12_init 20 = .ok (.getfield 16, 3)) ok_X11 (Nat.le_of_ble_eq_true rfl) wd_218 h23
  have h17 : Sd E K 17 (q_X12_init_17 V) := sd_get X (by decide +kernel : decode cX12_init 17 = .ok (.getfield 10, 3)) ok_X12 (Nat.le_of_ble_eq_true rfl) wd_374 h20
  have h16 : Sd E K 16 (q_X12_init_16 V) := sd_aload_n X (by decide +kernel : decode cX12_init 16 = .ok (.aload_n 0, 1)) rfl h17
  have h15 : Sd E K 15 (q_X12_init_15 V) := sd_aload_n X (by decide +kernel : decode cX12_init 15 = .ok (.aload_n 0, 1)) rfl h16
  have h12 : Sd E K 12 (q_X12_init_12 V) := sd_putF X (by decide +kernel : decode cX12_init 12 = .ok (.putfield 10, 3)) ok_X12 (Nat.le_of_ble_eq_true rfl) rfl rfl rfl wd_374 h15
  have h9 : Sd E K 9 (q_X12_init_9 V) := sd_callIN (n := 0) (ci := 10) X (ct_X11_init G) (by decide +kernel : decode cX12_init 9 = .ok (.invokespecial 9, 3)) wd_61 (G.nest_59) wd_60 wd_25 rfl (by decide +kernel) ⟨Nat.le_of_ble_eq_true rfl, Nat.le_of_ble_eq_true rfl⟩ h12
  have h8 : Sd E K 8 (q_X12_init_8 V) := sd_dup X (by decide +kernel : decode cX12_init 8 = .ok (.dup, 1)) h9
  have h5 : Sd E K 5 (q_X12_init_5 V) := sd_new X (by decide +kernel : decode cX12_init 5 = .ok (.new 7, 3)) ok_X11 (by decide) wd_57 wd_58 wd_25 h8
  have h4 : Sd E K 4 (q_X12_init_4 V) := sd_aload_n X (by decide +kernel : decode cX12_init 4 = .ok (.aload_n 0, 1)) rfl h5
  have h1 : Sd E K 1 (q_X12_init_1 V) := sd_obj X (by decide +kernel : decode cX12_init 1 = .ok (.invokespecial 1, 3)) wd_54 (Nat.le_of_ble_eq_true rfl) (Nat.le_of_ble_eq_true rfl) h4
  have h0 : Sd E K 0 (q_X12_init_0 V) := sd_aload_n X (by decide +kernel : decode cX12_init 0 = .ok (.aload_n 0, 1)) rfl h1
  exact h0
set_option maxHeartbeats 4000000 in
set_option maxRecDepth 100000 in
theorem ct_X12_init {s0 : State} {D : va_G} {ids : Nat → ClassId} {V : Nat → Nat} {l : Launch} (G : GG s0 D ids V) : CT s0 D ids l yX12_init cX12_init 1 none rm_X12_init (Sp_X12_init V) := CT.of (by decide +kernel) G.k (by
  rintro as z f K E ⟨b, rfl, rfl, h1, hV, hK⟩ X
  refine ⟨Nat.le_of_ble_eq_true rfl, by simp [Value.category], t_X12_init G X _ _ _ _ ?_⟩
  simp (disch := omega) only [q_X12_init_0, q_X12_init_1, q_X12_init_4, q_X12_init_5, q_X12_init_8, q_X12_init_9, q_X12_init_12, q_X12_init_15, q_X12_init_16, q_X12_init_17, q_X12_init_20, q_X12_init_23, q_X12_init_26, q_X12_init_27, q_X12_init_30, q_X12_init_31, q_X12_init_34, q_X12_init_37, q_X12_init_38, q_X12_init_41, q_X12_init_42, q_X12_init_45, q_X12_init_48, q_X12_init_49, q_X12_init_52, q_X12_init_53, q_X12_init_56, q_X12_init_59, q_X12_init_60, q_X12_init_63, q_X12_init_64, q_X12_init_67, q_X12_init_70, q_X12_init_71, q_X12_init_74, q_X12_init_75, q_X12_init_78, q_X12_init_81, q_X12_init_82, q_X12_init_85, q_X12_init_86, q_X12_init_89, q_X12_init_92, q_X12_init_93, q_X12_init_94, q_X12_init_97, q_X12_init_100, q_X12_init_103, q_X12_init_104, q_X12_init_107, q_X12_init_108, q_X12_init_111, q_X12_init_114, q_X12_init_115, q_X12_init_116, q_X12_init_119, xpush, xiload, xaload, xlload, xfload, xdload, lkill, xistore, xastore, xfstore, xlstore, xdstore, xiinc, xbin, xdiv, xun, xlbin, xi2l, xi2f, xi2d, xlcmp, xfcmp, xdcmp, xfdiv, xddiv, c1, xdup, xpop, xdup_x1, xdup2, xif, xicmp, xtab, xtabL, xget, xput, xald, xast, xalen, xnew, xnewa, c1s, recvOk, xcall, kont, xret, xlret, xfret, xdret, xaret, xvret, xs, xnewq, xastq, xcopy, xcopyF, xobj, xmax, xmin, xdead, xpushq, xmna, ls0, List.map_cons, List.map_nil, List.length_cons, List.length_nil, List.replicate, List.append_nil, List.cons_append, List.nil_append, List.getElem?_cons_zero, List.getElem?_cons_succ, List.getElem?_nil, List.set_cons_zero, List.set_cons_succ, List.take_succ_cons, List.take_zero, List.drop_succ_cons, List.drop_zero, List.reverse_cons, List.reverse_nil, List.sum_cons, List.sum_nil, Value.category, Option.toList_some, Option.toList_none, Nat.reduceAdd, Nat.reduceSub, Nat.reduceLT, Nat.reduceLeDiff, Nat.zero_add, Nat.le_refl, true_and, and_true, Nat.sub_zero, Nat.zero_lt_succ, Nat.zero_le, Nat.not_lt_zero, Nat.reduceEqDiff, Nat.one_ne_zero, nI_toInt, Int.reduceEq, Int.reduceAdd, Int.reduceLT, Int.reduceLE, Int.cast_ofNat_Int, reduceIte, or_false, false_or, eq_self, or_true, true_or, or_self, nI_clamp, vp_in_nI, nI_ltI, nI_leI, nI_eq, nI_add, nI_zero9, nI_nlt0, nI_le0, nI_lt0, arG, va_rf, not_false_eq_true, not_true_eq_false, false_implies, true_implies, implies_true, ne_eq, okv_int, okv_z0, okv_z1, okv_zN, okv_ref, okv_arr, okv_null, vn_z0, vn_z1, vn_zN, nr_int, nr_z, va_up_self, up_fr, rw1_j, rw1_up, h1]
  refine ⟨Nat.le_of_ble_eq_true rfl, Nat.le_of_ble_eq_true rfl, Nat.le_of_ble_eq_true rfl, Nat.le_of_ble_eq_true rfl, ?_⟩
  refine ⟨b + 1, rfl, rfl, va_up_self _ _ _, fun f1 g1 fr1 => ?_⟩
  have b1 := fr1 b (by omega)
  have o1 : ∀ q, q < b → f1 q = f q := fun q hq => (fr1 q (by omega)).trans (up_fr (by omega))
  simp (disch := omega) only [up_fr, va_up_self, h1] at b1
  clear fr1
  simp (disch := omega) only [q_X12_init_0, q_X12_init_1, q_X12_init_4, q_X12_init_5, q_X12_init_8, q_X12_init_9, q_X12_init_12, q_X12_init_15, q_X12_init_16, q_X12_init_17, q_X12_init_20, q_X12_init_23, q_X12_init_26, q_X12_init_27, q_X12_init_30, q_X12_init_31, q_X12_init_34, q_X12_init_37, q_X12_init_38, q_X12_init_41, q_X12_init_42, q_X12_init_45, q_X12_init_48, q_X12_init_49, q_X12_init_52, q_X12_init_53, q_X12_init_56, q_X12_init_59, q_X12_init_60, q_X12_init_63, q_X12_init_64, q_X12_init_67, q_X12_init_70, q_X12_init_71, q_X12_init_74, q_X12_init_75, q_X12_init_78, q_X12_init_81, q_X12_init_82, q_X12_init_85, q_X12_init_86, q_X12_init_89, q_X12_init_92, q_X12_init_93, q_X12_init_94, q_X12_init_97, q_X12_init_100, q_X12_init_103, q_X12_init_104, q_X12_init_107, q_X12_init_108, q_X12_init_111, q_X12_init_114, q_X12_init_115, q_X12_init_116, q_X12_init_119, xpush, xiload, xaload, xlload, xfload, xdload, lkill, xistore, xastore, xfstore, xlstore, xdstore, xiinc, xbin, xdiv, xun, xlbin, xi2l, xi2f, xi2d, xlcmp, xfcmp, xdcmp, xfdiv, xddiv, c1, xdup, xpop, xdup_x1, xdup2, xif, xicmp, xtab, xtabL, xget, xput, xald, xast, xalen, xnew, xnewa, c1s, recvOk, xcall, kont, xret, xlret, xfret, xdret, xaret, xvret, xs, xnewq, xastq, xcopy, xcopyF, xobj, xmax, xmin, xdead, xpushq, xmna, ls0, List.map_cons, List.map_nil, List.length_cons, List.length_nil, List.replicate, List.append_nil, List.cons_append, List.nil_append, List.getElem?_cons_zero, List.getElem?_cons_succ, List.getElem?_nil, List.set_cons_zero, List.set_cons_succ, List.take_succ_cons, List.take_zero, List.drop_succ_cons, List.drop_zero, List.reverse_cons, List.reverse_nil, List.sum_cons, List.sum_nil, Value.category, Option.toList_some, Option.toList_none, Nat.reduceAdd, Nat.reduceSub, Nat.reduceLT, Nat.reduceLeDiff, Nat.zero_add, Nat.le_refl, true_and, and_true, Nat.sub_zero, Nat.zero_lt_succ, Nat.zero_le, Nat.not_lt_zero, Nat.reduceEqDiff, Nat.one_ne_zero, nI_toInt, Int.reduceEq, Int.reduceAdd, Int.reduceLT, Int.reduceLE, Int.cast_ofNat_Int, reduceIte, or_false, false_or, eq_self, or_true, true_or, or_self, nI_clamp, vp_in_nI, nI_ltI, nI_leI, nI_eq, nI_add, nI_zero9, nI_nlt0, nI_le0, nI_lt0, arG, va_rf, not_false_eq_true, not_true_eq_false, false_implies, true_implies, implies_true, ne_eq, okv_int, okv_z0, okv_z1, okv_zN, okv_ref, okv_arr, okv_null, vn_z0, vn_z1, vn_zN, nr_int, nr_z, va_up_self, up_fr, rw1_j, rw1_up, b1, g1.1]
  refine ⟨Nat.le_of_ble_eq_true rfl, Nat.le_of_ble_eq_true rfl, Nat.le_of_ble_eq_true rfl, Nat.le_of_ble_eq_true rfl, ?_⟩
  refine ⟨b + 95, rfl, rfl, va_up_self _ _ _, fun f2 g2 fr2 => ?_⟩
  have b2 := fr2 b (by omega)
  replace g1 : isWk f2 (b + 1) cmN cmN (-15) (-15) := g1.fr (fun q h1 h2 => (fr2 q (by omega)).trans (by simp (disch := omega) only [up_fr]))
  have o2 : ∀ q, q < b → f2 q = f q := fun q hq => (fr2 q (by omega)).trans (by simp (disch := omega) only [up_fr]; exact o1 q hq)
  simp (disch := omega) only [up_fr, va_up_self] at b2
  clear fr2 o1 b1
  simp (disch := omega) only [q_X12_init_0, q_X12_init_1, q_X12_init_4, q_X12_init_5, q_X12_init_8, q_X12_init_9, q_X12_init_12, q_X12_init_15, q_X12_init_16, q_X12_init_17, q_X12_init_20, q_X12_init_23, q_X12_init_26, q_X12_init_27, q_X12_init_30, q_X12_init_31, q_X12_init_34, q_X12_init_37, q_X12_init_38, q_X12_init_41, q_X12_init_42, q_X12_init_45, q_X12_init_48, q_X12_init_49, q_X12_init_52, q_X12_init_53, q_X12_init_56, q_X12_init_59, q_X12_init_60, q_X12_init_63, q_X12_init_64, q_X12_init_67, q_X12_init_70, q_X12_init_71, q_X12_init_74, q_X12_init_75, q_X12_init_78, q_X12_init_81, q_X12_init_82, q_X12_init_85, q_X12_init_86, q_X12_init_89, q_X12_init_92, q_X12_init_93, q_X12_init_94, q_X12_init_97, q_X12_init_100, q_X12_init_103, q_X12_init_104, q_X12_init_107, q_X12_init_108, q_X12_init_111, q_X12_init_114, q_X12_init_115, q_X12_init_116, q_X12_init_119, xpush, xiload, xaload, xlload, xfload, xdload, lkill, xistore, xastore, xfstore, xlstore, xdstore, xiinc, xbin, xdiv, xun, xlbin, xi2l, xi2f, xi2d, xlcmp, xfcmp, xdcmp, xfdiv, xddiv, c1, xdup, xpop, xdup_x1, xdup2, xif, xicmp, xtab, xtabL, xget, xput, xald, xast, xalen, xnew, xnewa, c1s, recvOk, xcall, kont, xret, xlret, xfret, xdret, xaret, xvret, xs, xnewq, xastq, xcopy, xcopyF, xobj, xmax, xmin, xdead, xpushq, xmna, ls0, List.map_cons, List.map_nil, List.length_cons, List.length_nil, List.replicate, List.append_nil, List.cons_append, List.nil_append, List.getElem?_cons_zero, List.getElem?_cons_succ, List.getElem?_nil, List.set_cons_zero, List.set_cons_succ, List.take_succ_cons, List.take_zero, List.drop_succ_cons, List.drop_zero, List.reverse_cons, List.reverse_nil, List.sum_cons, List.sum_nil, Value.category, Option.toList_some, Option.toList_none, Nat.reduceAdd, Nat.reduceSub, Nat.reduceLT, Nat.reduceLeDiff, Nat.zero_add, Nat.le_refl, true_and, and_true, Nat.sub_zero, Nat.zero_lt_succ, Nat.zero_le, Nat.not_lt_zero, Nat.reduceEqDiff, Nat.one_ne_zero, nI_toInt, Int.reduceEq, Int.reduceAdd, Int.reduceLT, Int.reduceLE, Int.cast_ofNat_Int, reduceIte, or_false, false_or, eq_self, or_true, true_or, or_self, nI_clamp, vp_in_nI, nI_ltI, nI_leI, nI_eq, nI_add, nI_zero9, nI_nlt0, nI_le0, nI_lt0, arG, va_rf, not_false_eq_true, not_true_eq_false, false_implies, true_implies, implies_true, ne_eq, okv_int, okv_z0, okv_z1, okv_zN, okv_ref, okv_arr, okv_null, vn_z0, vn_z1, vn_zN, nr_int, nr_z, va_up_self, up_fr, rw1_j, rw1_up, b2, g1.1]
  refine ⟨Nat.le_of_ble_eq_true rfl, Nat.le_of_ble_eq_true rfl, Nat.le_of_ble_eq_true rfl, Nat.le_of_ble_eq_true rfl, ?_⟩
  refine ⟨b + 150, rfl, rfl, va_up_self _ _ _, fun f3 g3 fr3 => ?_⟩
  have b3 := fr3 b (by omega)
  replace g1 : isWk f3 (b + 1) cmN cmN (-15) (-15) := g1.fr (fun q h1 h2 => (fr3 q (by omega)).trans (by simp (disch := omega) only [up_fr]))
  replace g2 : isCo f3 (b + 95) cmN := g2.fr (fun q h1 h2 => (fr3 q (by omega)).trans (by simp (disch := omega) only [up_fr]))
  have o3 : ∀ q, q < b → f3 q = f q := fun q hq => (fr3 q (by omega)).trans (by simp (disch := omega) only [up_fr]; exact o2 q hq)
  simp (disch := omega) only [up_fr, va_up_self] at b3
  clear fr3 o2 b2
  simp (disch := omega) only [q_X12_init_0, q_X12_init_1, q_X12_init_4, q_X12_init_5, q_X12_init_8, q_X12_init_9, q_X12_init_12, q_X12_init_15, q_X12_init_16, q_X12_init_17, q_X12_init_20, q_X12_init_23, q_X12_init_26, q_X12_init_27, q_X12_init_30, q_X12_init_31, q_X12_init_34, q_X12_init_37, q_X12_init_38, q_X12_init_41, q_X12_init_42, q_X12_init_45, q_X12_init_48, q_X12_init_49, q_X12_init_52, q_X12_init_53, q_X12_init_56, q_X12_init_59, q_X12_init_60, q_X12_init_63, q_X12_init_64, q_X12_init_67, q_X12_init_70, q_X12_init_71, q_X12_init_74, q_X12_init_75, q_X12_init_78, q_X12_init_81, q_X12_init_82, q_X12_init_85, q_X12_init_86, q_X12_init_89, q_X12_init_92, q_X12_init_93, q_X12_init_94, q_X12_init_97, q_X12_init_100, q_X12_init_103, q_X12_init_104, q_X12_init_107, q_X12_init_108, q_X12_init_111, q_X12_init_114, q_X12_init_115, q_X12_init_116, q_X12_init_119, xpush, xiload, xaload, xlload, xfload, xdload, lkill, xistore, xastore, xfstore, xlstore, xdstore, xiinc, xbin, xdiv, xun, xlbin, xi2l, xi2f, xi2d, xlcmp, xfcmp, xdcmp, xfdiv, xddiv, c1, xdup, xpop, xdup_x1, xdup2, xif, xicmp, xtab, xtabL, xget, xput, xald, xast, xalen, xnew, xnewa, c1s, recvOk, xcall, kont, xret, xlret, xfret, xdret, xaret, xvret, xs, xnewq, xastq, xcopy, xcopyF, xobj, xmax, xmin, xdead, xpushq, xmna, ls0, List.map_cons, List.map_nil, List.length_cons, List.length_nil, List.replicate, List.append_nil, List.cons_append, List.nil_append, List.getElem?_cons_zero, List.getElem?_cons_succ, List.getElem?_nil, List.set_cons_zero, List.set_cons_succ, List.take_succ_cons, List.take_zero, List.drop_succ_cons, List.drop_zero, List.reverse_cons, List.reverse_nil, List.sum_cons, List.sum_nil, Value.category, Option.toList_some, Option.toList_none, Nat.reduceAdd, Nat.reduceSub, Nat.reduceLT, Nat.reduceLeDiff, Nat.zero_add, Nat.le_refl, true_and, and_true, Nat.sub_zero, Nat.zero_lt_succ, Nat.zero_le, Nat.not_lt_zero, Nat.reduceEqDiff, Nat.one_ne_zero, nI_toInt, Int.reduceEq, Int.reduceAdd, Int.reduceLT, Int.reduceLE, Int.cast_ofNat_Int, reduceIte, or_false, false_or, eq_self, or_true, true_or, or_self, nI_clamp, vp_in_nI, nI_ltI, nI_leI, nI_eq, nI_add, nI_zero9, nI_nlt0, nI_le0, nI_lt0, arG, va_rf, not_false_eq_true, not_true_eq_false, false_implies, true_implies, implies_true, ne_eq, okv_int, okv_z0, okv_z1, okv_zN, okv_ref, okv_arr, okv_null, vn_z0, vn_z1, vn_zN, nr_int, nr_z, va_up_self, up_fr, rw1_j, rw1_up, b3, g1.1]
  refine ⟨Nat.le_of_ble_eq_true rfl, Nat.le_of_ble_eq_true rfl, Nat.le_of_ble_eq_true rfl, Nat.le_of_ble_eq_true rfl, ?_⟩
  refine ⟨b + 205, rfl, rfl, va_up_self _ _ _, fun f4 g4 fr4 => ?_⟩
  have b4 := fr4 b (by omega)
  replace g1 : isWk f4 (b + 1) cmN cmN (-15) (-15) := g1.fr (fun q h1 h2 => (fr4 q (by omega)).trans (by simp (disch := omega) only [up_fr]))
  replace g2 : isCo f4 (b + 95) cmN := g2.fr (fun q h1 h2 => (fr4 q (by omega)).trans (by simp (disch := omega) only [up_fr]))
  replace g3 : isCo f4 (b + 150) cmN := g3.fr (fun q h1 h2 => (fr4 q (by omega)).trans (by simp (disch := omega) only [up_fr]))
  have o4 : ∀ q, q < b → f4 q = f q := fun q hq => (fr4 q (by omega)).trans (by simp (disch := omega) only [up_fr]; exact o3 q hq)
  simp (disch := omega) only [up_fr, va_up_self] at b4
  clear fr4 o3 b3
  simp (disch := omega) only [q_X12_init_0, q_X12_init_1, q_X12_init_4, q_X12_init_5, q_X12_init_8, q_X12_init_9, q_X12_init_12, q_X12_init_15, q_X12_init_16, q_X12_init_17, q_X12_init_20, q_X12_init_23, q_X12_init_26, q_X12_init_27, q_X12_init_30, q_X12_init_31, q_X12_init_34, q_X12_init_37, q_X12_init_38, q_X12_init_41, q_X12_init_42, q_X12_init_45, q_X12_init_48, q_X12_init_49, q_X12_init_52, q_X12_init_53, q_X12_init_56, q_X12_init_59, q_X12_init_60, q_X12_init_63, q_X12_init_64, q_X12_init_67, q_X12_init_70, q_X12_init_71, q_X12_init_74, q_X12_init_75, q_X12_init_78, q_X12_init_81, q_X12_init_82, q_X12_init_85, q_X12_init_86, q_X12_init_89, q_X12_init_92, q_X12_init_93, q_X12_init_94, q_X12_init_97, q_X12_init_100, q_X12_init_103, q_X12_init_104, q_X12_init_107, q_X12_init_108, q_X12_init_111, q_X12_init_114, q_X12_init_115, q_X12_init_116, q_X12_init_119, xpush, xiload, xaload, xlload, xfload, xdload, lkill, xistore, xastore, xfstore, xlstore, xdstore, xiinc, xbin, xdiv, xun, xlbin, xi2l, xi2f, xi2d, xlcmp, xfcmp, xdcmp, xfdiv, xddiv, c1, xdup, xpop, xdup_x1, xdup2, xif, xicmp, xtab, xtabL, xget, xput, xald, xast, xalen, xnew, xnewa, c1s, recvOk, xcall, kont, xret, xlret, xfret, xdret, xaret, xvret, xs, xnewq, xastq, xcopy, xcopyF, xobj, xmax, xmin, xdead, xpushq, xmna, ls0, List.map_cons, List.map_nil, List.length_cons, List.length_nil, List.replicate, List.append_nil, List.cons_append, List.nil_append, List.getElem?_cons_zero, List.getElem?_cons_succ, List.getElem?_nil, List.set_cons_zero, List.set_cons_succ, List.take_succ_cons, List.take_zero, List.drop_succ_cons, List.drop_zero, List.reverse_cons, List.reverse_nil, List.sum_cons, List.sum_nil, Value.category, Option.toList_some, Option.toList_none, Nat.reduceAdd, Nat.reduceSub, Nat.reduceLT, Nat.reduceLeDiff, Nat.zero_add, Nat.le_refl, true_and, and_true, Nat.sub_zero, Nat.zero_lt_succ, Nat.zero_le, Nat.not_lt_zero, Nat.reduceEqDiff, Nat.one_ne_zero, nI_toInt, Int.reduceEq, Int.reduceAdd, Int.reduceLT, Int.reduceLE, Int.cast_ofNat_Int, reduceIte, or_false, false_or, eq_self, or_true, true_or, or_self, nI_clamp, vp_in_nI, nI_ltI, nI_leI, nI_eq, nI_add, nI_zero9, nI_nlt0, nI_le0, nI_lt0, arG, va_rf, not_false_eq_true, not_true_eq_false, false_implies, true_implies, implies_true, ne_eq, okv_int, okv_z0, okv_z1, okv_zN, okv_ref, okv_arr, okv_null, vn_z0, vn_z1, vn_zN, nr_int, nr_z, va_up_self, up_fr, rw1_j, rw1_up, b4, g1.1]
  refine ⟨Nat.le_of_ble_eq_true rfl, Nat.le_of_ble_eq_true rfl, Nat.le_of_ble_eq_true rfl, Nat.le_of_ble_eq_true rfl, ?_⟩
  refine ⟨b + 702, rfl, rfl, va_up_self _ _ _, fun f5 g5 fr5 => ?_⟩
  have b5 := fr5 b (by omega)
  replace g1 : isWk f5 (b + 1) cmN cmN (-15) (-15) := g1.fr (fun q h1 h2 => (fr5 q (by omega)).trans (by simp (disch := omega) only [up_fr]))
  replace g2 : isCo f5 (b + 95) cmN := g2.fr (fun q h1 h2 => (fr5 q (by omega)).trans (by simp (disch := omega) only [up_fr]))
  replace g3 : isCo f5 (b + 150) cmN := g3.fr (fun q h1 h2 => (fr5 q (by omega)).trans (by simp (disch := omega) only [up_fr]))
  replace g4 : isPa f5 (b + 205) (fun _ => cmN) 0 0 := g4.fr (fun q h1 h2 => (fr5 q (by omega)).trans (by simp (disch := omega) only [up_fr]))
  have o5 : ∀ q, q < b → f5 q = f q := fun q hq => (fr5 q (by omega)).trans (by simp (disch := omega) only [up_fr]; exact o4 q hq)
  simp (disch := omega) only [up_fr, va_up_self] at b5
  clear fr5 o4 b4
  simp (disch := omega) only [q_X12_init_0, q_X12_init_1, q_X12_init_4, q_X12_init_5, q_X12_init_8, q_X12_init_9, q_X12_init_12, q_X12_init_15, q_X12_init_16, q_X12_init_17, q_X12_init_20, q_X12_init_23, q_X12_init_26, q_X12_init_27, q_X12_init_30, q_X12_init_31, q_X12_init_34, q_X12_init_37, q_X12_init_38, q_X12_init_41, q_X12_init_42, q_X12_init_45, q_X12_init_48, q_X12_init_49, q_X12_init_52, q_X12_init_53, q_X12_init_56, q_X12_init_59, q_X12_init_60, q_X12_init_63, q_X12_init_64, q_X12_init_67, q_X12_init_70, q_X12_init_71, q_X12_init_74, q_X12_init_75, q_X12_init_78, q_X12_init_81, q_X12_init_82, q_X12_init_85, q_X12_init_86, q_X12_init_89, q_X12_init_92, q_X12_init_93, q_X12_init_94, q_X12_init_97, q_X12_init_100, q_X12_init_103, q_X12_init_104, q_X12_init_107, q_X12_init_108, q_X12_init_111, q_X12_init_114, q_X12_init_115, q_X12_init_116, q_X12_init_119, xpush, xiload, xaload, xlload, xfload, xdload, lkill, xistore, xastore, xfstore, xlstore, xdstore, xiinc, xbin, xdiv, xun, xlbin, xi2l, xi2f, xi2d, xlcmp, xfcmp, xdcmp, xfdiv, xddiv, c1, xdup, xpop, xdup_x1, xdup2, xif, xicmp, xtab, xtabL, xget, xput, xald, xast, xalen, xnew, xnewa, c1s, recvOk, xcall, kont, xret, xlret, xfret, xdret, xaret, xvret, xs, xnewq, xastq, xcopy, xcopyF, xobj, xmax, xmin, xdead, xpushq, xmna, ls0, List.map_cons, List.map_nil, List.length_cons, List.length_nil, List.replicate, List.append_nil, List.cons_append, List.nil_append, List.getElem?_cons_zero, List.getElem?_cons_succ, List.getElem?_nil, List.set_cons_zero, List.set_cons_succ, List.take_succ_cons, List.take_zero, List.drop_succ_cons, List.drop_zero, List.reverse_cons, List.reverse_nil, List.sum_cons, List.sum_nil, Value.category, Option.toList_some, Option.toList_none, Nat.reduceAdd, Nat.reduceSub, Nat.reduceLT, Nat.reduceLeDiff, Nat.zero_add, Nat.le_refl, true_and, and_true, Nat.sub_zero, Nat.zero_lt_succ, Nat.zero_le, Nat.not_lt_zero, Nat.reduceEqDiff, Nat.one_ne_zero, nI_toInt, Int.reduceEq, Int.reduceAdd, Int.reduceLT, Int.reduceLE, Int.cast_ofNat_Int, reduceIte, or_false, false_or, eq_self, or_true, true_or, or_self, nI_clamp, vp_in_nI, nI_ltI, nI_leI, nI_eq, nI_add, nI_zero9, nI_nlt0, nI_le0, nI_lt0, arG, va_rf, not_false_eq_true, not_true_eq_false, false_implies, true_implies, implies_true, ne_eq, okv_int, okv_z0, okv_z1, okv_zN, okv_ref, okv_arr, okv_null, vn_z0, vn_z1, vn_zN, nr_int, nr_z, va_up_self, up_fr, rw1_j, rw1_up, b5, g1.1]
  refine ⟨Nat.le_of_ble_eq_true rfl, Nat.le_of_ble_eq_true rfl, Nat.le_of_ble_eq_true rfl, Nat.le_of_ble_eq_true rfl, ?_⟩
  refine ⟨b + 706, rfl, rfl, va_up_self _ _ _, fun f6 g6 fr6 => ?_⟩
  have b6 := fr6 b (by omega)
  replace g1 : isWk f6 (b + 1) cmN cmN (-15) (-15) := g1.fr (fun q h1 h2 => (fr6 q (by omega)).trans (by simp (disch := omega) only [up_fr]))
  replace g2 : isCo f6 (b + 95) cmN := g2.fr (fun q h1 h2 => (fr6 q (by omega)).trans (by simp (disch := omega) only [up_fr]))
  replace g3 : isCo f6 (b + 150) cmN := g3.fr (fun q h1 h2 => (fr6 q (by omega)).trans (by simp (disch := omega) only [up_fr]))
  replace g4 : isPa f6 (b + 205) (fun _ => cmN) 0 0 := g4.fr (fun q h1 h2 => (fr6 q (by omega)).trans (by simp (disch := omega) only [up_fr]))
  replace g5 : isDs f6 (b + 702) (fun _ => 0) (fun _ => 0) (fun _ => 0) := g5.fr (fun q h1 h2 => (fr6 q (by omega)).trans (by simp (disch := omega) only [up_fr]))
  have o6 : ∀ q, q < b → f6 q = f q := fun q hq => (fr6 q (by omega)).trans (by simp (disch := omega) only [up_fr]; exact o5 q hq)
  simp (disch := omega) only [up_fr, va_up_self] at b6
  clear fr6 o5 b5
  simp (disch := omega) only [q_X12_init_0, q_X12_init_1, q_X12_init_4, q_X12_init_5, q_X12_init_8, q_X12_init_9, q_X12_init_12, q_X12_init_15, q_X12_init_16, q_X12_init_17, q_X12_init_20, q_X12_init_23, q_X12_init_26, q_X12_init_27, q_X12_init_30, q_X12_init_31, q_X12_init_34, q_X12_init_37, q_X12_init_38, q_X12_init_41, q_X12_init_42, q_X12_init_45, q_X12_init_48, q_X12_init_49, q_X12_init_52, q_X12_init_53, q_X12_init_56, q_X12_init_59, q_X12_init_60, q_X12_init_63, q_X12_init_64, q_X12_init_67, q_X12_init_70, q_X12_init_71, q_X12_init_74, q_X12_init_75, q_X12_init_78, q_X12_init_81, q_X12_init_82, q_X12_init_85, q_X12_init_86, q_X12_init_89, q_X12_init_92, q_X12_init_93, q_X12_init_94, q_X12_init_97, q_X12_init_100, q_X12_init_103, q_X12_init_104, q_X12_init_107, q_X12_init_108, q_X12_init_111, q_X12_init_114, q_X12_init_115, q_X12_init_116, q_X12_init_119, xpush, xiload, xaload, xlload, xfload, xdload, lkill, xistore, xastore, xfstore, xlstore, xdstore, xiinc, xbin, xdiv, xun, xlbin, xi2l, xi2f, xi2d, xlcmp, xfcmp, xdcmp, xfdiv, xddiv, c1, xdup, xpop, xdup_x1, xdup2, xif, xicmp, xtab, xtabL, xget, xput, xald, xast, xalen, xnew, xnewa, c1s, recvOk, xcall, kont, xret, xlret, xfret, xdret, xaret, xvret, xs, xnewq, xastq, xcopy, xcopyF, xobj, xmax, xmin, xdead, xpushq, xmna, ls0, List.map_cons, List.map_nil, List.length_cons, List.length_nil, List.replicate, List.append_nil, List.cons_append, List.nil_append, List.getElem?_cons_zero, List.getElem?_cons_succ, List.getElem?_nil, List.set_cons_zero, List.set_cons_succ, List.take_succ_cons, List.take_zero, List.drop_succ_cons, List.drop_zero, List.reverse_cons, List.reverse_nil, List.sum_cons, List.sum_nil, Value.category, Option.toList_some, Option.toList_none, Nat.reduceAdd, Nat.reduceSub, Nat.reduceLT, Nat.reduceLeDiff, Nat.zero_add, Nat.le_refl, true_and, and_true, Nat.sub_zero, Nat.zero_lt_succ, Nat.zero_le, Nat.not_lt_zero, Nat.reduceEqDiff, Nat.one_ne_zero, nI_toInt, Int.reduceEq, Int.reduceAdd, Int.reduceLT, Int.reduceLE, Int.cast_ofNat_Int, reduceIte, or_false, false_or, eq_self, or_true, true_or, or_self, nI_clamp, vp_in_nI, nI_ltI, nI_leI, nI_eq, nI_add, nI_zero9, nI_nlt0, nI_le0, nI_lt0, arG, va_rf, not_false_eq_true, not_true_eq_false, false_implies, true_implies, implies_true, ne_eq, okv_int, okv_z0, okv_z1, okv_zN, okv_ref, okv_arr, okv_null, vn_z0, vn_z1, vn_zN, nr_int, nr_z, va_up_self, up_fr, rw1_j, rw1_up, b6, g1.1]
  refine ⟨Nat.le_of_ble_eq_true rfl, Nat.le_of_ble_eq_true rfl, Nat.le_of_ble_eq_true rfl, Nat.le_of_ble_eq_true rfl, ?_⟩
  refine ⟨b + 709, rfl, rfl, va_up_self _ _ _, fun f7 k1 k2 k3 fr7 => ?_⟩
  have b7 := fr7 b (by omega)
  replace g1 : isWk f7 (b + 1) cmN cmN (-15) (-15) := g1.fr (fun q h1 h2 => (fr7 q (by omega)).trans (by simp (disch := omega) only [up_fr]))
  replace g2 : isCo f7 (b + 95) cmN := g2.fr (fun q h1 h2 => (fr7 q (by omega)).trans (by simp (disch := omega) only [up_fr]))
  replace g3 : isCo f7 (b + 150) cmN := g3.fr (fun q h1 h2 => (fr7 q (by omega)).trans (by simp (disch := omega) only [up_fr]))
  replace g4 : isPa f7 (b + 205) (fun _ => cmN) 0 0 := g4.fr (fun q h1 h2 => (fr7 q (by omega)).trans (by simp (disch := omega) only [up_fr]))
  replace g5 : isDs f7 (b + 702) (fun _ => 0) (fun _ => 0) (fun _ => 0) := g5.fr (fun q h1 h2 => (fr7 q (by omega)).trans (by simp (disch := omega) only [up_fr]))
  replace g6 : isTr f7 (b + 706) (fun _ => 0) (fun _ => 0) 0 0 0 0 := g6.fr (fun q h1 h2 => (fr7 q (by omega)).trans (by simp (disch := omega) only [up_fr]))
  have o7 : ∀ q, q < b → f7 q = f q := fun q hq => (fr7 q (by omega)).trans (by simp (disch := omega) only [up_fr]; exact o6 q hq)
  simp (disch := omega) only [up_fr, va_up_self] at b7
  clear fr7 o6 b6
  have k1' := k1
  unfold isRr at k1'
  simp (disch := omega) only [q_X12_init_0, q_X12_init_1, q_X12_init_4, q_X12_init_5, q_X12_init_8, q_X12_init_9, q_X12_init_12, q_X12_init_15, q_X12_init_16, q_X12_init_17, q_X12_init_20, q_X12_init_23, q_X12_init_26, q_X12_init_27, q_X12_init_30, q_X12_init_31, q_X12_init_34, q_X12_init_37, q_X12_init_38, q_X12_init_41, q_X12_init_42, q_X12_init_45, q_X12_init_48, q_X12_init_49, q_X12_init_52, q_X12_init_53, q_X12_init_56, q_X12_init_59, q_X12_init_60, q_X12_init_63, q_X12_init_64, q_X12_init_67, q_X12_init_70, q_X12_init_71, q_X12_init_74, q_X12_init_75, q_X12_init_78, q_X12_init_81, q_X12_init_82, q_X12_init_85, q_X12_init_86, q_X12_init_89, q_X12_init_92, q_X12_init_93, q_X12_init_94, q_X12_init_97, q_X12_init_100, q_X12_init_103, q_X12_init_104, q_X12_init_107, q_X12_init_108, q_X12_init_111, q_X12_init_114, q_X12_init_115, q_X12_init_116, q_X12_init_119, xpush, xiload, xaload, xlload, xfload, xdload, lkill, xistore, xastore, xfstore, xlstore, xdstore, xiinc, xbin, xdiv, xun, xlbin, xi2l, xi2f, xi2d, xlcmp, xfcmp, xdcmp, xfdiv, xddiv, c1, xdup, xpop, xdup_x1, xdup2, xif, xicmp, xtab, xtabL, xget, xput, xald, xast, xalen, xnew, xnewa, c1s, recvOk, xcall, kont, xret, xlret, xfret, xdret, xaret, xvret, xs, xnewq, xastq, xcopy, xcopyF, xobj, xmax, xmin, xdead, xpushq, xmna, ls0, List.map_cons, List.map_nil, List.length_cons, List.length_nil, List.replicate, List.append_nil, List.cons_append, List.nil_append, List.getElem?_cons_zero, List.getElem?_cons_succ, List.getElem?_nil, List.set_cons_zero, List.set_cons_succ, List.take_succ_cons, List.take_zero, List.drop_succ_cons, List.drop_zero, List.reverse_cons, List.reverse_nil, List.sum_cons, List.sum_nil, Value.category, Option.toList_some, Option.toList_none, Nat.reduceAdd, Nat.reduceSub, Nat.reduceLT, Nat.reduceLeDiff, Nat.zero_add, Nat.le_refl, true_and, and_true, Nat.sub_zero, Nat.zero_lt_succ, Nat.zero_le, Nat.not_lt_zero, Nat.reduceEqDiff, Nat.one_ne_zero, nI_toInt, Int.reduceEq, Int.reduceAdd, Int.reduceLT, Int.reduceLE, Int.cast_ofNat_Int, reduceIte, or_false, false_or, eq_self, or_true, true_or, or_self, nI_clamp, vp_in_nI, nI_ltI, nI_leI, nI_eq, nI_add, nI_zero9, nI_nlt0, nI_le0, nI_lt0, arG, va_rf, not_false_eq_true, not_true_eq_false, false_implies, true_implies, implies_true, ne_eq, okv_int, okv_z0, okv_z1, okv_zN, okv_ref, okv_arr, okv_null, vn_z0, vn_z1, vn_zN, nr_int, nr_z, va_up_self, up_fr, rw1_j, rw1_up, b7, k1']
  refine ⟨Nat.le_of_ble_eq_true rfl, Nat.le_of_ble_eq_true rfl, Nat.le_of_ble_eq_true rfl, Nat.le_of_ble_eq_true rfl, ?_⟩
  refine ⟨b + 712, rfl, by omega, va_up_self _ _ _, fun f8 l1 l2 fr8 => ?_⟩
  have b8 := fr8 b (by omega) (by omega)
  replace g1 : isWk f8 (b + 1) cmN cmN (-15) (-15) := g1.fr (fun q h1 h2 => (fr8 q (by omega) (by omega)).trans (by simp (disch := omega) only [up_fr]))
  replace g2 : isCo f8 (b + 95) cmN := g2.fr (fun q h1 h2 => (fr8 q (by omega) (by omega)).trans (by simp (disch := omega) only [up_fr]))
  replace g3 : isCo f8 (b + 150) cmN := g3.fr (fun q h1 h2 => (fr8 q (by omega) (by omega)).trans (by simp (disch := omega) only [up_fr]))
  replace g4 : isPa f8 (b + 205) (fun _ => cmN) 0 0 := g4.fr (fun q h1 h2 => (fr8 q (by omega) (by omega)).trans (by simp (disch := omega) only [up_fr]))
  replace g5 : isDs f8 (b + 702) (fun _ => 0) (fun _ => 0) (fun _ => 0) := g5.fr (fun q h1 h2 => (fr8 q (by omega) (by omega)).trans (by simp (disch := omega) only [up_fr]))
  replace g6 : isTr f8 (b + 706) (fun _ => 0) (fun _ => 0) 0 0 0 0 := g6.fr (fun q h1 h2 => (fr8 q (by omega) (by omega)).trans (by simp (disch := omega) only [up_fr]))
  replace k1 := (fr8 (b + 709) (by omega) (by omega)).trans ((show _ = _ by simp (disch := omega) only [up_fr]).trans k1)
  replace k2 := (fr8 (b + 709 + 1) (by omega) (by omega)).trans ((show _ = _ by simp (disch := omega) only [up_fr]).trans k2)
  replace k3 := (fr8 (b + 709 + 2) (by omega) (by omega)).trans ((show _ = _ by simp (disch := omega) only [up_fr]).trans k3)
  have o8 : ∀ q, q < b → f8 q = f q := fun q hq => (fr8 q (by omega) (by omega)).trans (by simp (disch := omega) only [up_fr]; exact o7 q hq)
  simp (disch := omega) only [up_fr, va_up_self] at b8
  clear fr8 o7 b7
  simp (disch := omega) only [q_X12_init_0, q_X12_init_1, q_X12_init_4, q_X12_init_5, q_X12_init_8, q_X12_init_9, q_X12_init_12, q_X12_init_15, q_X12_init_16, q_X12_init_17, q_X12_init_20, q_X12_init_23, q_X12_init_26, q_X12_init_27, q_X12_init_30, q_X12_init_31, q_X12_init_34, q_X12_init_37, q_X12_init_38, q_X12_init_41, q_X12_init_42, q_X12_init_45, q_X12_init_48, q_X12_init_49, q_X12_init_52, q_X12_init_53, q_X12_init_56, q_X12_init_59, q_X12_init_60, q_X12_init_63, q_X12_init_64, q_X12_init_67, q_X12_init_70, q_X12_init_71, q_X12_init_74, q_X12_init_75, q_X12_init_78, q_X12_init_81, q_X12_init_82, q_X12_init_85, q_X12_init_86, q_X12_init_89, q_X12_init_92, q_X12_init_93, q_X12_init_94, q_X12_init_97, q_X12_init_100, q_X12_init_103, q_X12_init_104, q_X12_init_107, q_X12_init_108, q_X12_init_111, q_X12_init_114, q_X12_init_115, q_X12_init_116, q_X12_init_119, xpush, xiload, xaload, xlload, xfload, xdload, lkill, xistore, xastore, xfstore, xlstore, xdstore, xiinc, xbin, xdiv, xun, xlbin, xi2l, xi2f, xi2d, xlcmp, xfcmp, xdcmp, xfdiv, xddiv, c1, xdup, xpop, xdup_x1, xdup2, xif, xicmp, xtab, xtabL, xget, xput, xald, xast, xalen, xnew, xnewa, c1s, recvOk, xcall, kont, xret, xlret, xfret, xdret, xaret, xvret, xs, xnewq, xastq, xcopy, xcopyF, xobj, xmax, xmin, xdead, xpushq, xmna, ls0, List.map_cons, List.map_nil, List.length_cons, List.length_nil, List.replicate, List.append_nil, List.cons_append, List.nil_append, List.getElem?_cons_zero, List.getElem?_cons_succ, List.getElem?_nil, List.set_cons_zero, List.set_cons_succ, List.take_succ_cons, List.take_zero, List.drop_succ_cons, List.drop_zero, List.reverse_cons, List.reverse_nil, List.sum_cons, List.sum_nil, Value.category, Option.toList_some, Option.toList_none, Nat.reduceAdd, Nat.reduceSub, Nat.reduceLT, Nat.reduceLeDiff, Nat.zero_add, Nat.le_refl, true_and, and_true, Nat.sub_zero, Nat.zero_lt_succ, Nat.zero_le, Nat.not_lt_zero, Nat.reduceEqDiff, Nat.one_ne_zero, nI_toInt, Int.reduceEq, Int.reduceAdd, Int.reduceLT, Int.reduceLE, Int.cast_ofNat_Int, reduceIte, or_false, false_or, eq_self, or_true, true_or, or_self, nI_clamp, vp_in_nI, nI_ltI, nI_leI, nI_eq, nI_add, nI_zero9, nI_nlt0, nI_le0, nI_lt0, arG, va_rf, not_false_eq_true, not_true_eq_false, false_implies, true_implies, implies_true, ne_eq, okv_int, okv_z0, okv_z1, okv_zN, okv_ref, okv_arr, okv_null, vn_z0, vn_z1, vn_zN, nr_int, nr_z, va_up_self, up_fr, rw1_j, rw1_up, b8]
  refine hK _ ⟨cmN, cmN, cmN, fun _ => cmN, 0, fun _ => 0, b + 711, b + 713, 0, va_up_self _ _ _, ?_⟩ (fun q hq => by simp (disch := omega) only [up_fr]; exact o8 q hq)
  refine ⟨g1.fr (fun q h1 h2 => by simp (disch := omega) only [up_fr]), g2.fr (fun q h1 h2 => by simp (disch := omega) only [up_fr]), g3.fr (fun q h1 h2 => by simp (disch := omega) only [up_fr]), g4.fr (fun q h1 h2 => by simp (disch := omega) only [up_fr]), isPl.none (by omega), ⟨_, _, _, g5.fr (fun q h1 h2 => by simp (disch := omega) only [up_fr])⟩, ⟨_, _, _, _, _, _, g6.fr (fun q h1 h2 => by simp (disch := omega) only [up_fr])⟩, ?_, ⟨by show 0 < 9; omega, by show 0 < 8; omega, by show 0 < 8; omega, by show 0 < 2; omega⟩, ⟨16, 0, fun _ => 0, ?_⟩, ⟨16, 0, fun _ => 0, ?_⟩, by omega, ?_, by simp, by simp, Or.inl ⟨rfl, rfl⟩⟩
  · unfold isRr
    simp (disch := omega) only [up_fr]
    exact k1
  · exact ⟨by simp (disch := omega) only [up_fr]; exact k2, by simp (disch := omega) only [up_fr]; exact k3, Or.inl rfl, by simp, by omega, by omega, by omega, by omega, by omega, by omega, by simp, by simp⟩
  · exact ⟨by simp (disch := omega) only [up_fr]; exact l1, by simp (disch := omega) only [up_fr]; exact l2, Or.inl rfl, by simp, by omega, by omega, by omega, by omega, by omega, by omega, by simp, by simp⟩
  · exact hV.fr (fun q hq => by simp (disch := omega) only [up_fr]; exact o8 q hq))
