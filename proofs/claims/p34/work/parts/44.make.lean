/-! new objects -/
def cmN : Cm := fun t _ j => if t = 11 ∧ j = 4 then 8 else 0
theorem rw1_z : (fun _ => 0 : Nat → Int32) = rw1 (fun _ => 0) := rfl
theorem isGr.mna {f : Fm} {a : Nat} : isGr (mnaF f a 8 8) a (fun _ _ => 0) := by
  refine ⟨if_pos rfl, fun i hi => ?_⟩
  show (if a + 1 + i = a then _ else if a < a + 1 + i ∧ a + 1 + i ≤ a + 8 then _ else _) = _
  rw [if_neg (by omega), if_pos (by omega)]
  rfl
theorem mna_fr {f : Fm} {z N K q : Nat} (h : q < z) : mnaF f z N K q = f q := by
  unfold mnaF
  rw [if_neg (by omega), if_neg (by omega)]
theorem cmN_z {t : Nat} (h : t ≠ 11) : cmN t = fun _ _ => 0 := by
  funext r j
  exact if_neg (fun e => h e.1)
theorem n1_0 : ¬ (1 : Int32) = nI 0 := by decide +kernel
theorem okv_b0 : okv .byte (.int (nI 0)) := ⟨rfl, rfl⟩
abbrev Sp_J5_init_d00df : Spt := fun as z f K => ∃ (a : Nat), as = [.ref a, .int (nI 16)] ∧ a < z ∧ f a = some (.inr (0, [.null, .int (nI 0), .int (nI 0), .int (nI 0)])) ∧ ∀ f', f' a = some (.inr (0, [.ref z, .int (nI 0), .int (nI 0), .int (nI 0)])) → f' z = some (.inl (0, 16, .inl (rw1 (fun _ => 0)))) → (∀ q, q < z → q ≠ a → f' q = f q) → K none (z + 1) f'
def rm_J5_init_d00df : Room := { frames := 1, cells := 1, slots := 16, locals := 20 }
def q_J5_init_d00df_38 (ls : Ls) (st : List Value) (z : Zz) (f : Fm) (E : Ej) (R : Kr) : Prop := xvret ls st z f E R
def q_J5_init_d00df_19 (ls : Ls) (st : List Value) (z : Zz) (f : Fm) (E : Ej) (R : Kr) : Prop := xput 0 1 .byte q_J5_init_d00df_38 ls st z f E R
def q_J5_init_d00df_18 (ls : Ls) (st : List Value) (z : Zz) (f : Fm) (E : Ej) (R : Kr) : Prop := xpush (.int (nI 0)) q_J5_init_d00df_19 ls st z f E R
def q_J5_init_d00df_17 (ls : Ls) (st : List Value) (z : Zz) (f : Fm) (E : Ej) (R : Kr) : Prop := xaload 0 q_J5_init_d00df_18 ls st z f E R
def q_J5_init_d00df_14 (ls : Ls) (st : List Value) (z : Zz) (f : Fm) (E : Ej) (R : Kr) : Prop := xput 0 0 (.array .byte) q_J5_init_d00df_17 ls st z f E R
def q_J5_init_d00df_12 (ls : Ls) (st : List Value) (z : Zz) (f : Fm) (E : Ej) (R : Kr) : Prop := xnewa 0 q_J5_init_d00df_14 ls st z f E R
def q_J5_init_d00df_11 (ls : Ls) (st : List Value) (z : Zz) (f : Fm) (E : Ej) (R : Kr) : Prop := xiload 1 q_J5_init_d00df_12 ls st z f E R
def q_J5_init_d00df_10 (ls : Ls) (st : List Value) (z : Zz) (f : Fm) (E : Ej) (R : Kr) : Prop := xaload 0 q_J5_init_d00df_11 ls st z f E R
def q_J5_init_d00df_7 (ls : Ls) (st : List Value) (z : Zz) (f : Fm) (E : Ej) (R : Kr) : Prop := xif (fun x => x = 0) (xdead) q_J5_init_d00df_10 ls st z f E R
def q_J5_init_d00df_4 (ls : Ls) (st : List Value) (z : Zz) (f : Fm) (E : Ej) (R : Kr) : Prop := xpush (.int 1) q_J5_init_d00df_7 ls st z f E R
def q_J5_init_d00df_1 (ls : Ls) (st : List Value) (z : Zz) (f : Fm) (E : Ej) (R : Kr) : Prop := xobj q_J5_init_d00df_4 ls st z f E R
def q_J5_init_d00df_0 (ls : Ls) (st : List Value) (z : Zz) (f : Fm) (E : Ej) (R : Kr) : Prop := xaload 0 q_J5_init_d00df_1 ls st z f E R
set_option maxRecDepth 100000 in
theorem t_J5_init_d00df {s0 : State} {D : va_G} {ids : Nat → ClassId} {V : Nat → Nat} {l : Launch} {K : Kr} {E : Ej} (G : GG s0 D ids V) (X : EnX s0 D ids l RJ5 cJ5_init_d00df 2 none "<init>" rm_J5_init_d00df K E) : Sd E K 0 q_J5_init_d00df_0 := by
  have h38 : Sd E K 38 q_J5_init_d00df_38 := sd_vret X (by decide +kernel : decode cJ5_init_d00df 38 = .ok (.return_, 1))
  have h22 : Sd E K 22 q_J5_init_d00df_38 := sd_goto X (by decide +kernel : decode cJ5_init_d00df 22 = .ok (.goto 16, 3)) (by decide) h38
  have h19 : Sd E K 19 q_J5_init_d00df_19 := sd_put X (by decide +kernel : decode cJ5_init_d00df 19 = .ok (.putfield 22, 3)) ok_J4 (Nat.le_of_ble_eq_true rfl) rfl rfl wd_329 h22
  have h18 : Sd E K 18 q_J5_init_d00df_18 := sd_iconst X (by decide +kernel : decode cJ5_init_d00df 18 = .ok (.iconst 0, 1)) (by decide +kernel) h19
  have h17 : Sd E K 17 q_J5_init_d00df_17 := sd_aload_n X (by decide +kernel : decode cJ5_init_d00df 17 = .ok (.aload_n 0, 1)) rfl h18
  have h14 : Sd E K 14 q_J5_init_d00df_14 := sd_put X (by decide +kernel : decode cJ5_init_d00df 14 = .ok (.putfield 15, 3)) ok_J4 (Nat.le_of_ble_eq_true rfl) rfl rfl wd_328 h17
  have h12 : Sd E K 12 q_J5_init_d00df_12 := sd_newa X (Nat.le_of_ble_eq_true rfl) rfl rfl (by decide) (by decide +kernel : decode cJ5_init_d00df 12 = .ok (.newarray .byte, 2)) wd_341 (G.nm0) h14
  have h11 : Sd E K 11 q_J5_init_d00df_11 := sd_iload_n X (by decide +kernel : decode cJ5_init_d00df 11 = .ok (.iload_n 1, 1)) rfl h12
  have h10 : Sd E K 10 q_J5_init_d00df_10 := sd_aload_n X (by decide +kernel : decode cJ5_init_d00df 10 = .ok (.aload_n 0, 1)) rfl h11
  have h7 : Sd E K 7 q_J5_init_d00df_7 := sd_if_eq X (by decide +kernel : decode cJ5_init_d00df 7 = .ok (.ifCond .eq 18, 3)) (by decide) (sd_dead 25) h10
  have h4 : Sd E K 4 q_J5_init_d00df_4 := sd_gst X G.z0 (by decide +kernel : decode cJ5_init_d00df 4 = .ok (.getstatic 18, 3)) wd_319 h7
  have h1 : Sd E K 1 q_J5_init_d00df_1 := sd_obj X (by decide +kernel : decode cJ5_init_d00df 1 = .ok (.invokespecial 3, 3)) wd_318 (Nat.le_of_ble_eq_true rfl) (Nat.le_of_ble_eq_true rfl) h4
  have h0 : Sd E K 0 q_J5_init_d00df_0 := sd_aload_n X (by decide +kernel : decode cJ5_init_d00df 0 = .ok (.aload_n 0, 1)) rfl h1
  exact h0
set_option maxHeartbeats 4000000 in
set_option maxRecDepth 100000 in
theorem ct_J5_init_d00df {s0 : State} {D : va_G} {ids : Nat → ClassId} {V : Nat → Nat} {l : Launch} (G : GG s0 D ids V) : CT s0 D ids l yJ5_init_d00df cJ5_init_d00df 2 none rm_J5_init_d00df Sp_J5_init_d00df := CT.of (by decide +kernel) G.k (by
  rintro as z f K E ⟨a, rfl, hz, h1, hK⟩ X
  refine ⟨Nat.le_of_ble_eq_true rfl, by simp [Value.category], t_J5_init_d00df G X _ _ _ _ ?_⟩
  simp (disch := omega) only [q_J5_init_d00df_0, q_J5_init_d00df_1, q_J5_init_d00df_4, q_J5_init_d00df_7, q_J5_init_d00df_10, q_J5_init_d00df_11, q_J5_init_d00df_12, q_J5_init_d00df_14, q_J5_init_d00df_17, q_J5_init_d00df_18, q_J5_init_d00df_19, q_J5_init_d00df_38, xpush, xiload, xaload, xlload, xfload, xdload, lkill, xistore, xastore, xfstore, xlstore, xdstore, xiinc, xbin, xdiv, xun, xlbin, xi2l, xi2f, xi2d, xlcmp, xfcmp, xdcmp, xfdiv, xddiv, c1, xdup, xpop, xdup_x1, xdup2, xif, xicmp, xtab, xtabL, xget, xput, xald, xast, xalen, xnew, xnewa, c1s, recvOk, xcall, kont, xret, xlret, xfret, xdret, xaret, xvret, xs, xnewq, xastq, xcopy, xcopyF, xobj, xmax, xmin, xdead, xpushq, xmna, ls0, List.map_cons, List.map_nil, List.length_cons, List.length_nil, List.replicate, List.append_nil, List.cons_append, List.nil_append, List.getElem?_cons_zero, List.getElem?_cons_succ, List.getElem?_nil, List.set_cons_zero, List.set_cons_succ, List.take_succ_cons, List.take_zero, List.drop_succ_cons, List.drop_zero, List.reverse_cons, List.reverse_nil, List.sum_cons, List.sum_nil, Value.category, Option.toList_some, Option.toList_none, Nat.reduceAdd, Nat.reduceSub, Nat.reduceLT, Nat.reduceLeDiff, Nat.zero_add, Nat.le_refl, true_and, and_true, Nat.sub_zero, Nat.zero_lt_succ, Nat.zero_le, Nat.not_lt_zero, Nat.reduceEqDiff, Nat.one_ne_zero, nI_toInt, Int.reduceEq, Int.reduceAdd, Int.reduceLT, Int.reduceLE, Int.cast_ofNat_Int, reduceIte, or_false, false_or, eq_self, or_true, true_or, or_self, nI_clamp, vp_in_nI, nI_ltI, nI_leI, nI_eq, nI_add, nI_zero9, nI_nlt0, nI_le0, nI_lt0, arG, va_rf, not_false_eq_true, not_true_eq_false, false_implies, true_implies, implies_true, ne_eq, okv_int, okv_z0, okv_z1, okv_zN, okv_ref, okv_arr, okv_null, vn_z0, vn_z1, vn_zN, nr_int, nr_z, va_up_self, up_fr, rw1_j, rw1_up, h1]
  refine ⟨fun e => absurd e n1_0, fun _ => ⟨Nat.le_of_ble_eq_true rfl, Nat.le_of_ble_eq_true rfl, okv_b0, ?_⟩⟩
  exact hK _ (va_up_self _ _ _) (by rw [up_fr (by omega), up_fr (by omega), va_up_self]; rfl) (fun q h1 h2 => by rw [up_fr h2, up_fr h2, up_fr (by omega)]))
abbrev Sp_J4_init_da8c8 : Spt := fun as z f K => ∃ (a : Nat), as = [.ref a] ∧ a < z ∧ f a = some (.inr (0, [.null, .int (nI 0), .int (nI 0), .int (nI 0)])) ∧ ∀ f', f' a = some (.inr (0, [.ref z, .int (nI 0), .int (nI 0), .int (nI 0)])) → f' z = some (.inl (0, 16, .inl (rw1 (fun _ => 0)))) → (∀ q, q < z → q ≠ a → f' q = f q) → K none (z + 1) f'
def rm_J4_init_da8c8 : Room := { frames := 2, cells := 1, slots := 16, locals := 41 }
def q_J4_init_da8c8_6 (ls : Ls) (st : List Value) (z : Zz) (f : Fm) (E : Ej) (R : Kr) : Prop := xvret ls st z f E R
def q_J4_init_da8c8_3 (ls : Ls) (st : List Value) (z : Zz) (f : Fm) (E : Ej) (R : Kr) : Prop := xcall 2 1 Sp_J5_init_d00df 1 16 q_J4_init_da8c8_6 ls st z f E R
def q_J4_init_da8c8_1 (ls : Ls) (st : List Value) (z : Zz) (f : Fm) (E : Ej) (R : Kr) : Prop := xpush (.int (nI 16)) q_J4_init_da8c8_3 ls st z f E R
def q_J4_init_da8c8_0 (ls : Ls) (st : List Value) (z : Zz) (f : Fm) (E : Ej) (R : Kr) : Prop := xaload 0 q_J4_init_da8c8_1 ls st z f E R
set_option maxRecDepth 100000 in
theorem t_J4_init_da8c8 {s0 : State} {D : va_G} {ids : Nat → ClassId} {V : Nat → Nat} {l : Launch} {K : Kr} {E : Ej} (G : GG s0 D ids V) (X : EnX s0 D ids l RJ4 cJ4_init_da8c8 1 none "<init>" rm_J4_init_da8c8 K E) : Sd E K 0 q_J4_init_da8c8_0 := by
  have h6 : Sd E K 6 q_J4_init_da8c8_6 := sd_vret X (by decide +kernel : decode cJ4_init_da8c8 6 = .ok (.return_, 1))
  have h3 : Sd E K 3 q_J4_init_da8c8_3 := sd_callI (n := 1) (ci := 0) X (ct_J5_init_d00df G) (by decide +kernel : decode cJ4_init_da8c8 3 = .ok (.invokespecial 1, 3)) wd_317 wd_315 wd_316 wd_35 rfl (by decide +kernel) ⟨Nat.le_of_ble_eq_true rfl, Nat.le_of_ble_eq_true rfl⟩ h6
  have h1 : Sd E K 1 q_J4_init_da8c8_1 := sd_bipush X (by decide +kernel : decode cJ4_init_da8c8 1 = .ok (.bipush 16, 2)) (by decide +kernel) h3
  have h0 : Sd E K 0 q_J4_init_da8c8_0 := sd_aload_n X (by decide +kernel : decode cJ4_init_da8c8 0 = .ok (.aload_n 0, 1)) rfl h1
  exact h0
set_option maxHeartbeats 4000000 in
set_option maxRecDepth 100000 in
theorem ct_J4_init_da8c8 {s0 : State} {D : va_G} {ids : Nat → ClassId} {V : Nat → Nat} {l : Launch} (G : GG s0 D ids V) : CT s0 D ids l yJ4_init_da8c8 cJ4_init_da8c8 1 none rm_J4_init_da8c8 Sp_J4_init_da8c8 := CT.of (by decide +kernel) G.k (by
  rintro as z f K E ⟨a, rfl, hz, h1, hK⟩ X
  refine ⟨Nat.le_of_ble_eq_true rfl, by simp [Value.category], t_J4_init_da8c8 G X _ _ _ _ ?_⟩
  simp (disch := omega) only [q_J4_init_da8c8_0, q_J4_init_da8c8_1, q_J4_init_da8c8_3, q_J4_init_da8c8_6, xpush, xiload, xaload, xlload, xfload, xdload, lkill, xistore, xastore, xfstore, xlstore, xdstore, xiinc, xbin, xdiv, xun, xlbin, xi2l, xi2f, xi2d, xlcmp, xfcmp, xdcmp, xfdiv, xddiv, c1, xdup, xpop, xdup_x1, xdup2, xif, xicmp, xtab, xtabL, xget, xput, xald, xast, xalen, xnew, xnewa, c1s, recvOk, xcall, kont, xret, xlret, xfret, xdret, xaret, xvret, xs, xnewq, xastq, xcopy, xcopyF, xobj, xmax, xmin, xdead, xpushq, xmna, ls0, List.map_cons, List.map_nil, List.length_cons, List.length_nil, List.replicate, List.append_nil, List.cons_append, List.nil_append, List.getElem?_cons_zero, List.getElem?_cons_succ, List.getElem?_nil, List.set_cons_zero, List.set_cons_succ, List.take_succ_cons, List.take_zero, List.drop_succ_cons, List.drop_zero, List.reverse_cons, List.reverse_nil, List.sum_cons, List.sum_nil, Value.category, Option.toList_some, Option.toList_none, Nat.reduceAdd, Nat.reduceSub, Nat.reduceLT, Nat.reduceLeDiff, Nat.zero_add, Nat.le_refl, true_and, and_true, Nat.sub_zero, Nat.zero_lt_succ, Nat.zero_le, Nat.not_lt_zero, Nat.reduceEqDiff, Nat.one_ne_zero, nI_toInt, Int.reduceEq, Int.reduceAdd, Int.reduceLT, Int.reduceLE, Int.cast_ofNat_Int, reduceIte, or_false, false_or, eq_self, or_true, true_or, or_self, nI_clamp, vp_in_nI, nI_ltI, nI_leI, nI_eq, nI_add, nI_zero9, nI_nlt0, nI_le0, nI_lt0, arG, va_rf, not_false_eq_true, not_true_eq_false, false_implies, true_implies, implies_true, ne_eq, okv_int, okv_z0, okv_z1, okv_zN, okv_ref, okv_arr, okv_null, vn_z0, vn_z1, vn_zN, nr_int, nr_z, va_up_self, up_fr, rw1_j, rw1_up, h1]
  refine ⟨Nat.le_of_ble_eq_true rfl, Nat.le_of_ble_eq_true rfl, a, rfl, hz, h1, fun f1 g1 g2 fr1 => ?_⟩
  simp (disch := omega) only [q_J4_init_da8c8_0, q_J4_init_da8c8_1, q_J4_init_da8c8_3, q_J4_init_da8c8_6, xpush, xiload, xaload, xlload, xfload, xdload, lkill, xistore, xastore, xfstore, xlstore, xdstore, xiinc, xbin, xdiv, xun, xlbin, xi2l, xi2f, xi2d, xlcmp, xfcmp, xdcmp, xfdiv, xddiv, c1, xdup, xpop, xdup_x1, xdup2, xif, xicmp, xtab, xtabL, xget, xput, xald, xast, xalen, xnew, xnewa, c1s, recvOk, xcall, kont, xret, xlret, xfret, xdret, xaret, xvret, xs, xnewq, xastq, xcopy, xcopyF, xobj, xmax, xmin, xdead, xpushq, xmna, ls0, List.map_cons, List.map_nil, List.length_cons, List.length_nil, List.replicate, List.append_nil, List.cons_append, List.nil_append, List.getElem?_cons_zero, List.getElem?_cons_succ, List.getElem?_nil, List.set_cons_zero, List.set_cons_succ, List.take_succ_cons, List.take_zero, List.drop_succ_cons, List.drop_zero, List.reverse_cons, List.reverse_nil, List.sum_cons, List.sum_nil, Value.category, Option.toList_some, Option.toList_none, Nat.reduceAdd, Nat.reduceSub, Nat.reduceLT, Nat.reduceLeDiff, Nat.zero_add, Nat.le_refl, true_and, and_true, Nat.sub_zero, Nat.zero_lt_succ, Nat.zero_le, Nat.not_lt_zero, Nat.reduceEqDiff, Nat.one_ne_zero, nI_toInt, Int.reduceEq, Int.reduceAdd, Int.reduceLT, Int.reduceLE, Int.cast_ofNat_Int, reduceIte, or_false, false_or, eq_self, or_true, true_or, or_self, nI_clamp, vp_in_nI, nI_ltI, nI_leI, nI_eq, nI_add, nI_zero9, nI_nlt0, nI_le0, nI_lt0, arG, va_rf, not_false_eq_true, not_true_eq_false, false_implies, true_implies, implies_true, ne_eq, okv_int, okv_z0, okv_z1, okv_zN, okv_ref, okv_arr, okv_null, vn_z0, vn_z1, vn_zN, nr_int, nr_z, va_up_self, up_fr, rw1_j, rw1_up]
  exact hK f1 g1 g2 fr1)
abbrev Sp_X8_init : Spt := fun as z f K => ∃ (a : Nat), as = [.ref a] ∧ z = a + 1 ∧ f a = some (.inr (7, [.null, .int (nI 0)])) ∧ ∀ f', isRd f' a cmN → (∀ q, q < a → f' q = f q) → K none (a + 10) f'
def rm_X8_init : Room := { frames := 1, cells := 9, slots := 72, locals := 20 }
def q_X8_init_21 (ls : Ls) (st : List Value) (z : Zz) (f : Fm) (E : Ej) (R : Kr) : Prop := xvret ls st z f E R
def q_X8_init_18 (ls : Ls) (st : List Value) (z : Zz) (f : Fm) (E : Ej) (R : Kr) : Prop := xput 7 1 .int q_X8_init_21 ls st z f E R
def q_X8_init_17 (ls : Ls) (st : List Value) (z : Zz) (f : Fm) (E : Ej) (R : Kr) : Prop := xpush (.int (nI 0)) q_X8_init_18 ls st z f E R
def q_X8_init_16 (ls : Ls) (st : List Value) (z : Zz) (f : Fm) (E : Ej) (R : Kr) : Prop := xaload 0 q_X8_init_17 ls st z f E R
def q_X8_init_13 (ls : Ls) (st : List Value) (z : Zz) (f : Fm) (E : Ej) (R : Kr) : Prop := xput 7 0 (.array (.array .int)) q_X8_init_16 ls st z f E R
def q_X8_init_9 (ls : Ls) (st : List Value) (z : Zz) (f : Fm) (E : Ej) (R : Kr) : Prop := xmna q_X8_init_13 ls st z f E R
def q_X8_init_7 (ls : Ls) (st : List Value) (z : Zz) (f : Fm) (E : Ej) (R : Kr) : Prop := xpush (.int (nI 8)) q_X8_init_9 ls st z f E R
def q_X8_init_5 (ls : Ls) (st : List Value) (z : Zz) (f : Fm) (E : Ej) (R : Kr) : Prop := xpush (.int (nI 8)) q_X8_init_7 ls st z f E R
def q_X8_init_4 (ls : Ls) (st : List Value) (z : Zz) (f : Fm) (E : Ej) (R : Kr) : Prop := xaload 0 q_X8_init_5 ls st z f E R
def q_X8_init_1 (ls : Ls) (st : List Value) (z : Zz) (f : Fm) (E : Ej) (R : Kr) : Prop := xobj q_X8_init_4 ls st z f E R
def q_X8_init_0 (ls : Ls) (st : List Value) (z : Zz) (f : Fm) (E : Ej) (R : Kr) : Prop := xaload 0 q_X8_init_1 ls st z f E R
set_option maxRecDepth 100000 in
theorem t_X8_init {s0 : State} {D : va_G} {ids : Nat → ClassId} {V : Nat → Nat} {l : Launch} {K : Kr} {E : Ej} (G : GG s0 D ids V) (X : EnX s0 D ids l RX8 cX8_init 1 none "<init>" rm_X8_init K E) : Sd E K 0 q_X8_init_0 := by
  have h21 : Sd E K 21 q_X8_init_21 := sd_vret X (by decide +kernel : decode cX8_init 21 = .ok (.return_, 1))
  have h18 : Sd E K 18 q_X8_init_18 := sd_put X (by decide +kernel : decode cX8_init 18 = .ok (.putfield 16, 3)) ok_X8 (Nat.le_of_ble_eq_true rfl) rfl rfl wd_78 h21
  have h17 : Sd E K 17 q_X8_init_17 := sd_iconst X (by decide +kernel : decode cX8_init 17 = .ok (.iconst 0, 1)) (by decide +kernel) h18
  have h16 : Sd E K 16 q_X8_init_16 := sd_aload_n X (by decide +kernel : decode cX8_init 16 = .ok (.aload_n 0, 1)) rfl h17
  have h13 : Sd E K 13 q_X8_init_13 := sd_putF X (by decide +kernel : decode cX8_init 13 = .ok (.putfield 11, 3)) ok_X8 (Nat.le_of_ble_eq_true rfl) rfl rfl rfl wd_77 h16
  have h9 : Sd E K 9 q_X8_init_9 := sd_mna X (by decide +kernel : decode cX8_init 9 = .ok (.multianewarray 9 2, 4)) wd_75 G.am wd_87 h13
  have h7 : Sd E K 7 q_X8_init_7 := sd_bipush X (by decide +kernel : decode cX8_init 7 = .ok (.bipush 8, 2)) (by decide +kernel) h9
  have h5 : Sd E K 5 q_X8_init_5 := sd_bipush X (by decide +kernel : decode cX8_init 5 = .ok (.bipush 8, 2)) (by decide +kernel) h7
  have h4 : Sd E K 4 q_X8_init_4 := sd_aload_n X (by decide +kernel : decode cX8_init 4 = .ok (.aload_n 0, 1)) rfl h5
  have h1 : Sd E K 1 q_X8_init_1 := sd_obj X (by decide +kernel : decode cX8_init 1 = .ok (.invokespecial 3, 3)) wd_74 (Nat.le_of_ble_eq_true rfl) (Nat.le_of_ble_eq_true rfl) h4
  have h0 : Sd E K 0 q_X8_init_0 := sd_aload_n X (by decide +kernel : decode cX8_init 0 = .ok (.aload_n 0, 1)) rfl h1
  exact h0
set_option maxHeartbeats 4000000 in
set_option maxRecDepth 100000 in
theorem ct_X8_init {s0 : State} {D : va_G} {ids : Nat → ClassId} {V : Nat → Nat} {l : Launch} (G : GG s0 D ids V) : CT s0 D ids l yX8_init cX8_init 1 none rm_X8_init Sp_X8_init := CT.of (by decide +kernel) G.k (by
  rintro as z f K E ⟨a, rfl, rfl, h1, hK⟩ X
  refine ⟨Nat.le_of_ble_eq_true rfl, by simp [Value.category], t_X8_init G X _ _ _ _ ?_⟩
  simp (disch := omega) only [q_X8_init_0, q_X8_init_1, q_X8_init_4, q_X8_init_5, q_X8_init_7, q_X8_init_9, q_X8_init_13, q_X8_init_16, q_X8_init_17, q_X8_init_18, q_X8_init_21, xpush, xiload, xaload, xlload, xfload, xdload, lkill, xistore, xastore, xfstore, xlstore, xdstore, xiinc, xbin, xdiv, xun, xlbin, xi2l, xi2f, xi2d, xlcmp, xfcmp, xdcmp, xfdiv, xddiv, c1, xdup, xpop, xdup_x1, xdup2, xif, xicmp, xtab, xtabL, xget, xput, xald, xast, xalen, xnew, xnewa, c1s, recvOk, xcall, kont, xret, xlret, xfret, xdret, xaret, xvret, xs, xnewq, xastq, xcopy, xcopyF, xobj, xmax, xmin, xdead, xpushq, xmna, ls0, List.map_cons, List.map_nil, List.length_cons, List.length_nil, List.replicate, List.append_nil, List.cons_append, List.nil_append, List.getElem?_cons_zero, List.getElem?_cons_succ, List.getElem?_nil, List.set_cons_zero, List.set_cons_succ, List.take_succ_cons, List.take_zero, List.drop_succ_cons, List.drop_zero, List.reverse_cons, List.reverse_nil, List.sum_cons, List.sum_nil, Value.category, Option.toList_some, Option.toList_none, Nat.reduceAdd, Nat.reduceSub, Nat.reduceLT, Nat.reduceLeDiff, Nat.zero_add, Nat.le_refl, true_and, and_true, Nat.sub_zero, Nat.zero_lt_succ, Nat.zero_le, Nat.not_lt_zero, Nat.reduceEqDiff, Nat.one_ne_zero, nI_toInt, Int.reduceEq, Int.reduceAdd, Int.reduceLT, Int.reduceLE, Int.cast_ofNat_Int, reduceIte, or_false, false_or, eq_self, or_true, true_or, or_self, nI_clamp, vp_in_nI, nI_ltI, nI_leI, nI_eq, nI_add, nI_zero9, nI_nlt0, nI_le0, nI_lt0, arG, va_rf, not_false_eq_true, not_true_eq_false, false_implies, true_implies, implies_true, ne_eq, okv_int, okv_z0, okv_z1, okv_zN, okv_ref, okv_arr, okv_null, vn_z0, vn_z1, vn_zN, nr_int, nr_z, va_up_self, up_fr, rw1_j, rw1_up, h1, mna_fr]
  refine ⟨Nat.le_of_ble_eq_true rfl, Nat.le_of_ble_eq_true rfl, ?_⟩
  refine hK _ ⟨va_up_self _ _ _, ?_⟩ (fun q hq => by rw [up_fr (by omega), up_fr (by omega), mna_fr (by omega)])
  rw [cmN_z (by omega)]
  exact isGr.mna.fr (fun q h1 h2 => by rw [up_fr (by omega), up_fr (by omega)]))
abbrev Sp_X9_init : Spt := fun as z f K => ∃ (a : Nat), as = [.ref a] ∧ z = a + 1 ∧ f a = some (.inr (8, [.null, .null, .null, .null])) ∧ ∀ f', isRt f' a cmN → (∀ q, q < a → f' q = f q) → K none (a + 37) f'
def rm_X9_init : Room := { frames := 1, cells := 36, slots := 288, locals := 20 }
def q_X9_init_52 (ls : Ls) (st : List Value) (z : Zz) (f : Fm) (E : Ej) (R : Kr) : Prop := xvret ls st z f E R
def q_X9_init_49 (ls : Ls) (st : List Value) (z : Zz) (f : Fm) (E : Ej) (R : Kr) : Prop := xput 8 3 (.array (.array .int)) q_X9_init_52 ls st z f E R
def q_X9_init_45 (ls : Ls) (st : List Value) (z : Zz) (f : Fm) (E : Ej) (R : Kr) : Prop := xmna q_X9_init_49 ls st z f E R
def q_X9_init_43 (ls : Ls) (st : List Value) (z : Zz) (f : Fm) (E : Ej) (R : Kr) : Prop := xpush (.int (nI 8)) q_X9_init_45 ls st z f E R
def q_X9_init_41 (ls : Ls) (st : List Value) (z : Zz) (f : Fm) (E : Ej) (R : Kr) : Prop := xpush (.int (nI 8)) q_X9_init_43 ls st z f E R
def q_X9_init_40 (ls : Ls) (st : List Value) (z : Zz) (f : Fm) (E : Ej) (R : Kr) : Prop := xaload 0 q_X9_init_41 ls st z f E R
def q_X9_init_37 (ls : Ls) (st : List Value) (z : Zz) (f : Fm) (E : Ej) (R : Kr) : Prop := xput 8 2 (.array (.array .int)) q_X9_init_40 ls st z f E R
def q_X9_init_33 (ls : Ls) (st : List Value) (z : Zz) (f : Fm) (E : Ej) (R : Kr) : Prop := xmna q_X9_init_37 ls st z f E R
def q_X9_init_31 (ls : Ls) (st : List Value) (z : Zz) (f : Fm) (E : Ej) (R : Kr) : Prop := xpush (.int (nI 8)) q_X9_init_33 ls st z f E R
def q_X9_init_29 (ls : Ls) (st : List Value) (z : Zz) (f : Fm) (E : Ej) (R : Kr) : Prop := xpush (.int (nI 8)) q_X9_init_31 ls st z f E R
def q_X9_init_28 (ls : Ls) (st : List Value) (z : Zz) (f : Fm) (E : Ej) (R : Kr) : Prop := xaload 0 q_X9_init_29 ls st z f E R
def q_X9_init_25 (ls : Ls) (st : List Value) (z : Zz) (f : Fm) (E : Ej) (R : Kr) : Prop := xput 8 1 (.array (.array .int)) q_X9_init_28 ls st z f E R
def q_X9_init_21 (ls : Ls) (st : List Value) (z : Zz) (f : Fm) (E : Ej) (R : Kr) : Prop := xmna q_X9_init_25 ls st z f E R
def q_X9_init_19 (ls : Ls) (st : List Value) (z : Zz) (f : Fm) (E : Ej) (R : Kr) : Prop := xpush (.int (nI 8)) q_X9_init_21 ls st z f E R
def q_X9_init_17 (ls : Ls) (st : List Value) (z : Zz) (f : Fm) (E : Ej) (R : Kr) : Prop := xpush (.int (nI 8)) q_X9_init_19 ls st z f E R
def q_X9_init_16 (ls : Ls) (st : List Value) (z : Zz) (f : Fm) (E : Ej) (R : Kr) : Prop := xaload 0 q_X9_init_17 ls st z f E R
def q_X9_init_13 (ls : Ls) (st : List Value) (z : Zz) (f : Fm) (E : Ej) (R : Kr) : Prop := xput 8 0 (.array (.array .int)) q_X9_init_16 ls st z f E R
def q_X9_init_9 (ls : Ls) (st : List Value) (z : Zz) (f : Fm) (E : Ej) (R : Kr) : Prop := xmna q_X9_init_13 ls st z f E R
def q_X9_init_7 (ls : Ls) (st : List Value) (z : Zz) (f : Fm) (E : Ej) (R : Kr) : Prop := xpush (.int (nI 8)) q_X9_init_9 ls st z f E R
def q_X9_init_5 (ls : Ls) (st : List Value) (z : Zz) (f : Fm) (E : Ej) (R : Kr) : Prop := xpush (.int (nI 8)) q_X9_init_7 ls st z f E R
def q_X9_init_4 (ls : Ls) (st : List Value) (z : Zz) (f : Fm) (E : Ej) (R : Kr) : Prop := xaload 0 q_X9_init_5 ls st z f E R
def q_X9_init_1 (ls : Ls) (st : List Value) (z : Zz) (f : Fm) (E : Ej) (R : Kr) : Prop := xobj q_X9_init_4 ls st z f E R
def q_X9_init_0 (ls : Ls) (st : List Value) (z : Zz) (f : Fm) (E : Ej) (R : Kr) : Prop := xaload 0 q_X9_init_1 ls st z f E R
set_option maxRecDepth 100000 in
theorem t_X9_init {s0 : State} {D : va_G} {ids : Nat → ClassId} {V : Nat → Nat} {l : Launch} {K : Kr} {E : Ej} (G : GG s0 D ids V) (X : EnX s0 D ids l RX9 cX9_init 1 none "<init>" rm_X9_init K E) : Sd E K 0 q_X9_init_0 := by
  have h52 : Sd E K 52 q_X9_init_52 := sd_vret X (by decide +kernel : decode cX9_init 52 = .ok (.return_, 1))
  have h49 : Sd E K 49 q_X9_init_49 := sd_putF X (by decide +kernel : decode cX9_init 49 = .ok (.putfield 22, 3)) ok_X9 (Nat.le_of_ble_eq_true rfl) rfl rfl rfl wd_105 h52
  have h45 : Sd E K 45 q_X9_init_45 := sd_mna X (by decide +kernel : decode cX9_init 45 = .ok (.multianewarray 9 2, 4)) wd_94 G.am wd_87 h49
  have h43 : Sd E K 43 q_X9_init_43 := sd_bipush X (by decide +kernel : decode cX9_init 43 = .ok (.bipush 8, 2)) (by decide +kernel) h45
  have h41 : Sd E K 41 q_X9_init_41 := sd_bipush X (by decide +kernel : decode cX9_init 41 = .ok (.bipush 8, 2)) (by decide +kernel) h43
  have h40 : Sd E K 40 q_X9_init_40 := sd_aload_n X (by decide +kernel : decode cX9_init 40 = .ok (.aload_n 0, 1)) rfl h41
  have h37 : Sd E K 37 q_X9_init_37 := sd_putF X (by decide +kernel : decode cX9_init 37 = .ok (.putfield 19, 3)) ok_X9 (Nat.le_of_ble_eq_true rfl) rfl rfl rfl wd_103 h40
  have h33 : Sd E K 33 q_X9_init_33 := sd_mna X (by decide +kernel : decode cX9_init 33 = .ok (.multianewarray 9 2, 4)) wd_94 G.am wd_87 h37
  have h31 : Sd E K 31 q_X9_init_31 := sd_bipush X (by decide +kernel : decode cX9_init 31 = .ok (.bipush 8, 2)) (by decide +kernel) h33
  have h29 : Sd E K 29 q_X9_init_29 := sd_bipush X (by decide +kernel : decode cX9_init 29 = .ok (.bipush 8, 2)) (by decide +kernel) h31
  have h28 : Sd E K 28 q_X9_init_28 := sd_aload_n X (by decide +kernel : decode cX9_init 28 = .ok (.aload_n 0, 1)) rfl h29
  have h25 : Sd E K 25 q_X9_init_25 := sd_putF X (by decide +kernel : decode cX9_init 25 = .ok (.putfield 16, 3)) ok_X9 (Nat.le_of_ble_eq_true rfl) rfl rfl rfl wd_98 h28
  have h21 : Sd E K 21 q_X9_init_21 := sd_mna X (by decide +kernel : decode cX9_init 21 = .ok (.multianewarray 9 2, 4)) wd_94 G.am wd_87 h25
  have h19 : Sd E K 19 q_X9_init_19 := sd_bipush X (by decide +kernel : decode cX9_init 19 = .ok (.bipush 8, 2)) (by decide +kernel) h21
  have h17 : Sd E K 17 q_X9_init_17 := sd_bipush X (by decide +kernel : decode cX9_init 17 = .ok (.bipush 8, 2)) (by decide +kernel) h19
  have h16 : Sd E K 16 q_X9_init_16 := sd_aload_n X (by decide +kernel : decode cX9_init 16 = .ok (.aload_n 0, 1)) rfl h17
  have h13 : Sd E K 13 q_X9_init_13 := sd_putF X (by decide +kernel : decode cX9_init 13 = .ok (.putfield 11, 3)) ok_X9 (Nat.le_of_ble_eq_true rfl) rfl rfl rfl wd_95 h16
  have h9 : Sd E K 9 q_X9_init_9 := sd_mna X (by decide +kernel : decode cX9_init 9 = .ok (.multianewarray 9 2, 4)) wd_94 G.am wd_87 h13
  have h7 : Sd E K 7 q_X9_init_7 := sd_bipush X (by decide +kernel : decode cX9_init 7 = .ok (.bipush 8, 2)) (by decide +kernel) h9
  have h5 : Sd E K 5 q_X9_init_5 := sd_bipush X (by decide +kernel : decode cX9_init 5 = .ok (.bipush 8, 2)) (by decide +kernel) h7
  have h4 : Sd E K 4 q_X9_init_4 := sd_aload_n X (by decide +kernel : decode cX9_init 4 = .ok (.aload_n 0, 1)) rfl h5
  have h1 : Sd E K 1 q_X9_init_1 := sd_obj X (by decide +kernel : decode cX9_init 1 = .ok (.invokespecial 3, 3)) wd_93 (Nat.le_of_ble_eq_true rfl) (Nat.le_of_ble_eq_true rfl) h4
  have h0 : Sd E K 0 q_X9_init_0 := sd_aload_n X (by decide +kernel : decode cX9_init 0 = .ok (.aload_n 0, 1)) rfl h1
  exact h0
set_option maxHeartbeats 4000000 in
set_option maxRecDepth 100000 in
theorem ct_X9_init {s0 : State} {D : va_G} {ids : Nat → ClassId} {V : Nat → Nat} {l : Launch} (G : GG s0 D ids V) : CT s0 D ids l yX9_init cX9_init 1 none rm_X9_init Sp_X9_init := CT.of (by decide +kernel) G.k (by
  rintro as z f K E ⟨a, rfl, rfl, h1, hK⟩ X
  refine ⟨Nat.le_of_ble_eq_true rfl, by simp [Value.category], t_X9_init G X _ _ _ _ ?_⟩
  simp (disch := omega) only [q_X9_init_0, q_X9_init_1, q_X9_init_4, q_X9_init_5, q_X9_init_7, q_X9_init_9, q_X9_init_13, q_X9_init_16, q_X9_init_17, q_X9_init_19, q_X9_init_21, q_X9_init_25, q_X9_init_28, q_X9_init_29, q_X9_init_31, q_X9_init_33, q_X9_init_37, q_X9_init_40, q_X9_init_41, q_X9_init_43, q_X9_init_45, q_X9_init_49, q_X9_init_52, xpush, xiload, xaload, xlload, xfload, xdload, lkill, xistore, xastore, xfstore, xlstore, xdstore, xiinc, xbin, xdiv, xun, xlbin, xi2l, xi2f, xi2d, xlcmp, xfcmp, xdcmp, xfdiv, xddiv, c1, xdup, xpop, xdup_x1, xdup2, xif, xicmp, xtab, xtabL, xget, xput, xald, xast, xalen, xnew, xnewa, c1s, recvOk, xcall, kont, xret, xlret, xfret, xdret, xaret, xvret, xs, xnewq, xastq, xcopy, xcopyF, xobj, xmax, xmin, xdead, xpushq, xmna, ls0, List.map_cons, List.map_nil, List.length_cons, List.length_nil, List.replicate, List.append_nil, List.cons_append, List.nil_append, List.getElem?_cons_zero, List.getElem?_cons_succ, List.getElem?_nil, List.set_cons_zero, List.set_cons_succ, List.take_succ_cons, List.take_zero, List.drop_succ_cons, List.drop_zero, List.reverse_cons, List.reverse_nil, List.sum_cons, List.sum_nil, Value.category, Option.toList_some, Option.toList_none, Nat.reduceAdd, Nat.reduceSub, Nat.reduceLT, Nat.reduceLeDiff, Nat.zero_add, Nat.le_refl, true_and, and_true, Nat.sub_zero, Nat.zero_lt_succ, Nat.zero_le, Nat.not_lt_zero, Nat.reduceEqDiff, Nat.one_ne_zero, nI_toInt, Int.reduceEq, Int.reduceAdd, Int.reduceLT, Int.reduceLE, Int.cast_ofNat_Int, reduceIte, or_false, false_or, eq_self, or_true, true_or, or_self, nI_clamp, vp_in_nI, nI_ltI, nI_leI, nI_eq, nI_add, nI_zero9, nI_nlt0, nI_le0, nI_lt0, arG, va_rf, not_false_eq_true, not_true_eq_false, false_implies, true_implies, implies_true, ne_eq, okv_int, okv_z0, okv_z1, okv_zN, okv_ref, okv_arr, okv_null, vn_z0, vn_z1, vn_zN, nr_int, nr_z, va_up_self, up_fr, rw1_j, rw1_up, h1, mna_fr]
  refine ⟨Nat.le_of_ble_eq_true rfl, Nat.le_of_ble_eq_true rfl, Nat.le_of_ble_eq_true rfl, Nat.le_of_ble_eq_true rfl, Nat.le_of_ble_eq_true rfl, Nat.le_of_ble_eq_true rfl, Nat.le_of_ble_eq_true rfl, Nat.le_of_ble_eq_true rfl, ?_⟩
  refine hK _ ⟨va_up_self _ _ _, ?_⟩ (fun q hq => by simp (disch := omega) only [up_fr, mna_fr])
  simp (disch := omega) only [cmN_z]
  refine ⟨?_, ?_, ?_, ?_⟩
  · exact (isGr.mna (f := f) (a := a + 1)).fr (fun q h1 h2 => by simp (disch := omega) only [up_fr, mna_fr])
  · exact (isGr.mna (a := a + 1 + 1 + 8)).fr (fun q h1 h2 => by simp (disch := omega) only [up_fr, mna_fr]; rfl)
  · exact (isGr.mna (a := a + 1 + 1 + 8 + 1 + 8)).fr (fun q h1 h2 => by simp (disch := omega) only [up_fr, mna_fr]; rfl)
  · exact (isGr.mna (a := a + 1 + 1 + 8 + 1 + 8 + 1 + 8)).fr (fun q h1 h2 => by simp (disch := omega) only [up_fr, mna_fr]; rfl))
abbrev Sp_X5_init : Spt := fun as z f K => ∃ (a : Nat), as = [.ref a] ∧ z = a + 1 ∧ f a = some (.inr (4, [.null, .null, .null, .null, .null, .int (nI 0)])) ∧ ∀ f', isLt f' a cmN → (∀ q, q < a → f' q = f q) → K none (a + 6) f'
def rm_X5_init : Room := { frames := 1, cells := 5, slots := 50, locals := 20 }
def q_X5_init_49 (ls : Ls) (st : List Value) (z : Zz) (f : Fm) (E : Ej) (R : Kr) : Prop := xvret ls st z f E R
def q_X5_init_46 (ls : Ls) (st : List Value) (z : Zz) (f : Fm) (E : Ej) (R : Kr) : Prop := xput 4 5 .int q_X5_init_49 ls st z f E R
def q_X5_init_45 (ls : Ls) (st : List Value) (z : Zz) (f : Fm) (E : Ej) (R : Kr) : Prop := xpush (.int (nI 0)) q_X5_init_46 ls st z f E R
def q_X5_init_44 (ls : Ls) (st : List Value) (z : Zz) (f : Fm) (E : Ej) (R : Kr) : Prop := xaload 0 q_X5_init_45 ls st z f E R
def q_X5_init_41 (ls : Ls) (st : List Value) (z : Zz) (f : Fm) (E : Ej) (R : Kr) : Prop := xput 4 4 (.array .int) q_X5_init_44 ls st z f E R
def q_X5_init_39 (ls : Ls) (st : List Value) (z : Zz) (f : Fm) (E : Ej) (R : Kr) : Prop := xnewa 1 q_X5_init_41 ls st z f E R
def q_X5_init_37 (ls : Ls) (st : List Value) (z : Zz) (f : Fm) (E : Ej) (R : Kr) : Prop := xpush (.int (nI 10)) q_X5_init_39 ls st z f E R
def q_X5_init_36 (ls : Ls) (st : List Value) (z : Zz) (f : Fm) (E : Ej) (R : Kr) : Prop := xaload 0 q_X5_init_37 ls st z f E R
def q_X5_init_33 (ls : Ls) (st : List Value) (z : Zz) (f : Fm) (E : Ej) (R : Kr) : Prop := xput 4 3 (.array .int) q_X5_init_36 ls st z f E R
def q_X5_init_31 (ls : Ls) (st : List Value) (z : Zz) (f : Fm) (E : Ej) (R : Kr) : Prop := xnewa 1 q_X5_init_33 ls st z f E R
def q_X5_init_29 (ls : Ls) (st : List Value) (z : Zz) (f : Fm) (E : Ej) (R : Kr) : Prop := xpush (.int (nI 10)) q_X5_init_31 ls st z f E R
def q_X5_init_28 (ls : Ls) (st : List Value) (z : Zz) (f : Fm) (E : Ej) (R : Kr) : Prop := xaload 0 q_X5_init_29 ls st z f E R
def q_X5_init_25 (ls : Ls) (st : List Value) (z : Zz) (f : Fm) (E : Ej) (R : Kr) : Prop := xput 4 2 (.array .int) q_X5_init_28 ls st z f E R
def q_X5_init_23 (ls : Ls) (st : List Value) (z : Zz) (f : Fm) (E : Ej) (R : Kr) : Prop := xnewa 1 q_X5_init_25 ls st z f E R
def q_X5_init_21 (ls : Ls) (st : List Value) (z : Zz) (f : Fm) (E : Ej) (R : Kr) : Prop := xpush (.int (nI 10)) q_X5_init_23 ls st z f E R
def q_X5_init_20 (ls : Ls) (st : List Value) (z : Zz) (f : Fm) (E : Ej) (R : Kr) : Prop := xaload 0 q_X5_init_21 ls st z f E R
def q_X5_init_17 (ls : Ls) (st : List Value) (z : Zz) (f : Fm) (E : Ej) (R : Kr) : Prop := xput 4 1 (.array .int) q_X5_init_20 ls st z f E R
def q_X5_init_15 (ls : Ls) (st : List Value) (z : Zz) (f : Fm) (E : Ej) (R : Kr) : Prop := xnewa 1 q_X5_init_17 ls st z f E R
def q_X5_init_13 (ls : Ls) (st : List Value) (z : Zz) (f : Fm) (E : Ej) (R : Kr) : Prop := xpush (.int (nI 10)) q_X5_init_15 ls st z f E R
def q_X5_init_12 (ls : Ls) (st : List Value) (z : Zz) (f : Fm) (E : Ej) (R : Kr) : Prop := xaload 0 q_X5_init_13 ls st z f E R
def q_X5_init_9 (ls : Ls) (st : List Value) (z : Zz) (f : Fm) (E : Ej) (R : Kr) : Prop := xput 4 0 (.array .int) q_X5_init_12 ls st z f E R
def q_X5_init_7 (ls : Ls) (st : List Value) (z : Zz) (f : Fm) (E : Ej) (R : Kr) : Prop := xnewa 1 q_X5_init_9 ls st z f E R
def q_X5_init_5 (ls : Ls) (st : List Value) (z : Zz) (f : Fm) (E : Ej) (R : Kr) : Prop := xpush (.int (nI 10)) q_X5_init_7 ls st z f E R
def q_X5_init_4 (ls : Ls) (st : List Value) (z : Zz) (f : Fm) (E : Ej) (R : Kr) : Prop := xaload 0 q_X5_init_5 ls st z f E R
def q_X5_init_1 (ls : Ls) (st : List Value) (z : Zz) (f : Fm) (E : Ej) (R : Kr) : Prop := xobj q_X5_init_4 ls st z f E R
def q_X5_init_0 (ls : Ls) (st : List Value) (z : Zz) (f : Fm) (E : Ej) (R : Kr) : Prop := xaload 0 q_X5_init_1 ls st z f E R
set_option maxRecDepth 100000 in
theorem t_X5_init {s0 : State} {D : va_G} {ids : Nat → ClassId} {V : Nat → Nat} {l : Launch} {K : Kr} {E : Ej} (G : GG s0 D ids V) (X : EnX s0 D ids l RX5 cX5_init 1 none "<init>" rm_X5_init K E) : Sd E K 0 q_X5_init_0 := by
  have h49 : Sd E K 49 q_X5_init_49 := sd_vret X (by decide +kernel : decode cX5_init 49 = .ok (.return_, 1))
  have h46 : Sd E K 46 q_X5_init_46 := sd_put X (by decide +kernel : decode cX5_init 46 = .ok (.putfield 27, 3)) ok_X5 (Nat.le_of_ble_eq_true rfl) rfl rfl wd_127 h49
  have h45 : Sd E K 45 q_X5_init_45 := sd_iconst X (by decide +kernel : decode cX5_init 45 = .ok (.iconst 0, 1)) (by decide +kernel) h46
  have h44 : Sd E K 44 q_X5_init_44 := sd_aload_n X (by decide +kernel : decode cX5_init 44 = .ok (.aload_n 0, 1)) rfl h45
  have h41 : Sd E K 41 q_X5_init_41 := sd_putF X (by decide +kernel : decode cX5_init 41 = .ok (.putfield 24, 3)) ok_X5 (Nat.le_of_ble_eq_true rfl) rfl rfl rfl wd_126 h44
  have h39 : Sd E K 39 q_X5_init_39 := sd_newa X (Nat.le_of_ble_eq_true rfl) rfl rfl (by decide) (by decide +kernel : decode cX5_init 39 = .ok (.newarray .int, 2)) wd_87 (G.nm1) h41
  have h37 : Sd E K 37 q_X5_init_37 := sd_bipush X (by decide +kernel : decode cX5_init 37 = .ok (.bipush 10, 2)) (by decide +kernel) h39
  have h36 : Sd E K 36 q_X5_init_36 := sd_aload_n X (by decide +kernel : decode cX5_init 36 = .ok (.aload_n 0, 1)) rfl h37
  have h33 : Sd E K 33 q_X5_init_33 := sd_putF X (by decide +kernel : decode cX5_init 33 = .ok (.putfield 21, 3)) ok_X5 (Nat.le_of_ble_eq_true rfl) rfl rfl rfl wd_125 h36
  have h31 : Sd E K 31 q_X5_init_31 := sd_newa X (Nat.le_of_ble_eq_true rfl) rfl rfl (by decide) (by decide +kernel : decode cX5_init 31 = .ok (.newarray .int, 2)) wd_87 (G.nm1) h33
  have h29 : Sd E K 29 q_X5_init_29 := sd_bipush X (by decide +kernel : decode cX5_init 29 = .ok (.bipush 10, 2)) (by decide +kernel) h31
  have h28 : Sd E K 28 q_X5_init_28 := sd_aload_n X (by decide +kernel : decode cX5_init 28 = .ok (.aload_n 0, 1)) rfl h29
  have h25 : Sd E K 25 q_X5_init_25 := sd_putF X (by decide +kernel : decode cX5_init 25 = .ok (.putfield 18, 3)) ok_X5 (Nat.le_of_ble_eq_true rfl) rfl rfl rfl wd_124 h28
  have h23 : Sd E K 23 q_X5_init_23 := sd_newa X (Nat.le_of_ble_eq_true rfl) rfl rfl (by decide) (by decide +kernel : decode cX5_init 23 = .ok (.newarray .int, 2)) wd_87 (G.nm1) h25
  have h21 : Sd E K 21 q_X5_init_21 := sd_bipush X (by decide +kernel : decode cX5_init 21 = .ok (.bipush 10, 2)) (by decide +kernel) h23
  have h20 : Sd E K 20 q_X5_init_20 := sd_aload_n X (by decide +kernel : decode cX5_init 20 = .ok (.aload_n 0, 1)) rfl h21
  have h17 : Sd E K 17 q_X5_init_17 := sd_putF X (by decide +kernel : decode cX5_init 17 = .ok (.putfield 15, 3)) ok_X5 (Nat.le_of_ble_eq_true rfl) rfl rfl rfl wd_123 h20
  have h15 : Sd E K 15 q_X5_init_15 := sd_newa X (Nat.le_of_ble_eq_true rfl) rfl rfl (by decide) (by decide +kernel : decode cX5_init 15 = .ok (.newarray .int, 2)) wd_87 (G.nm1) h17
  have h13 : Sd E K 13 q_X5_init_13 := sd_bipush X (by decide +kernel : decode cX5_init 13 = .ok (.bipush 10, 2)) (by decide +kernel) h15
  have h12 : Sd E K 12 q_X5_init_12 := sd_aload_n X (by decide +kernel : decode cX5_init 12 = .ok (.aload_n 0, 1)) rfl h13
  have h9 : Sd E K 9 q_X5_init_9 := sd_putF X (by decide +kernel : decode cX5_init 9 = .ok (.putfield 9, 3)) ok_X5 (Nat.le_of_ble_eq_true rfl) rfl rfl rfl wd_122 h12
  have h7 : Sd E K 7 q_X5_init_7 := sd_newa X (Nat.le_of_ble_eq_true rfl) rfl rfl (by decide) (by decide +kernel : decode cX5_init 7 = .ok (.newarray .int, 2)) wd_87 (G.nm1) h9
  have h5 : Sd E K 5 q_X5_init_5 := sd_bipush X (by decide +kernel : decode cX5_init 5 = .ok (.bipush 10, 2)) (by decide +kernel) h7
  have h4 : Sd E K 4 q_X5_init_4 := sd_aload_n X (by decide +kernel : decode cX5_init 4 = .ok (.aload_n 0, 1)) rfl h5
  have h1 : Sd E K 1 q_X5_init_1 := sd_obj X (by decide +kernel : decode cX5_init 1 = .ok (.invokespecial 3, 3)) wd_121 (Nat.le_of_ble_eq_true rfl) (Nat.le_of_ble_eq_true rfl) h4
  have h0 : Sd E K 0 q_X5_init_0 := sd_aload_n X (by decide +kernel : decode cX5_init 0 = .ok (.aload_n 0, 1)) rfl h1
  exact h0
set_option maxHeartbeats 4000000 in
set_option maxRecDepth 100000 in
theorem ct_X5_init {s0 : State} {D : va_G} {ids : Nat → ClassId} {V : Nat → Nat} {l : Launch} (G : GG s0 D ids V) : CT s0 D ids l yX5_init cX5_init 1 none rm_X5_init Sp_X5_init := CT.of (by decide +kernel) G.k (by
  rintro as z f K E ⟨a, rfl, rfl, h1, hK⟩ X
  refine ⟨Nat.le_of_ble_eq_true rfl, by simp [Value.category], t_X5_init G X _ _ _ _ ?_⟩
  simp (disch := omega) only [q_X5_init_0, q_X5_init_1, q_X5_init_4, q_X5_init_5, q_X5_init_7, q_X5_init_9, q_X5_init_12, q_X5_init_13, q_X5_init_15, q_X5_init_17, q_X5_init_20, q_X5_init_21, q_X5_init_23, q_X5_init_25, q_X5_init_28, q_X5_init_29, q_X5_init_31, q_X5_init_33, q_X5_init_36, q_X5_init_37, q_X5_init_39, q_X5_init_41, q_X5_init_44, q_X5_init_45, q_X5_init_46, q_X5_init_49, xpush, xiload, xaload, xlload, xfload, xdload, lkill, xistore, xastore, xfstore, xlstore, xdstore, xiinc, xbin, xdiv, xun, xlbin, xi2l, xi2f, xi2d, xlcmp, xfcmp, xdcmp, xfdiv, xddiv, c1, xdup, xpop, xdup_x1, xdup2, xif, xicmp, xtab, xtabL, xget, xput, xald, xast, xalen, xnew, xnewa, c1s, recvOk, xcall, kont, xret, xlret, xfret, xdret, xaret, xvret, xs, xnewq, xastq, xcopy, xcopyF, xobj, xmax, xmin, xdead, xpushq, xmna, ls0, List.map_cons, List.map_nil, List.length_cons, List.length_nil, List.replicate, List.append_nil, List.cons_append, List.nil_append, List.getElem?_cons_zero, List.getElem?_cons_succ, List.getElem?_nil, List.set_cons_zero, List.set_cons_succ, List.take_succ_cons, List.take_zero, List.drop_succ_cons, List.drop_zero, List.reverse_cons, List.reverse_nil, List.sum_cons, List.sum_nil, Value.category, Option.toList_some, Option.toList_none, Nat.reduceAdd, Nat.reduceSub, Nat.reduceLT, Nat.reduceLeDiff, Nat.zero_add, Nat.le_refl, true_and, and_true, Nat.sub_zero, Nat.zero_lt_succ, Nat.zero_le, Nat.not_lt_zero, Nat.reduceEqDiff, Nat.one_ne_zero, nI_toInt, Int.reduceEq, Int.reduceAdd, Int.reduceLT, Int.reduceLE, Int.cast_ofNat_Int, reduceIte, or_false, false_or, eq_self, or_true, true_or, or_self, nI_clamp, vp_in_nI, nI_ltI, nI_leI, nI_eq, nI_add, nI_zero9, nI_nlt0, nI_le0, nI_lt0, arG, va_rf, not_false_eq_true, not_true_eq_false, false_implies, true_implies, implies_true, ne_eq, okv_int, okv_z0, okv_z1, okv_zN, okv_ref, okv_arr, okv_null, vn_z0, vn_z1, vn_zN, nr_int, nr_z, va_up_self, up_fr, rw1_j, rw1_up, h1]
  refine ⟨Nat.le_of_ble_eq_true rfl, Nat.le_of_ble_eq_true rfl, Nat.le_of_ble_eq_true rfl, Nat.le_of_ble_eq_true rfl, Nat.le_of_ble_eq_true rfl, Nat.le_of_ble_eq_true rfl, Nat.le_of_ble_eq_true rfl, Nat.le_of_ble_eq_true rfl, Nat.le_of_ble_eq_true rfl, Nat.le_of_ble_eq_true rfl, ?_⟩
  refine hK _ ⟨va_up_self _ _ _, ?_⟩ (fun q hq => by simp (disch := omega) only [up_fr])
  simp (disch := omega) only [va_up_self, up_fr, cmN_z]
  exact ⟨rfl, rfl, rfl, rfl, rfl⟩)
abbrev Sp_X1_init : Spt := fun as z f K => ∃ (a : Nat), as = [.ref a] ∧ z = a + 1 ∧ f a = some (.inr (1, [.null, .null, .null, .null, .int (nI 0), .int (nI 0), .int (nI 0), .int (nI 0), .int (nI 0), .int (nI 0)])) ∧ ∀ f', isCo f' a cmN → (∀ q, q < a → f' q = f q) → K none (a + 55) f'
def rm_X1_init : Room := { frames := 2, cells := 54, slots := 430, locals := 40 }
def q_X1_init_76 (ls : Ls) (st : List Value) (z : Zz) (f : Fm) (E : Ej) (R : Kr) : Prop := xvret ls st z f E R
def q_X1_init_73 (ls : Ls) (st : List Value) (z : Zz) (f : Fm) (E : Ej) (R : Kr) : Prop := xput 1 9 .int q_X1_init_76 ls st z f E R
def q_X1_init_72 (ls : Ls) (st : List Value) (z : Zz) (f : Fm) (E : Ej) (R : Kr) : Prop := xpush (.int (nI 0)) q_X1_init_73 ls st z f E R
def q_X1_init_71 (ls : Ls) (st : List Value) (z : Zz) (f : Fm) (E : Ej) (R : Kr) : Prop := xaload 0 q_X1_init_72 ls st z f E R
def q_X1_init_68 (ls : Ls) (st : List Value) (z : Zz) (f : Fm) (E : Ej) (R : Kr) : Prop := xput 1 8 .int q_X1_init_71 ls st z f E R
def q_X1_init_67 (ls : Ls) (st : List Value) (z : Zz) (f : Fm) (E : Ej) (R : Kr) : Prop := xpush (.int (nI 0)) q_X1_init_68 ls st z f E R
def q_X1_init_66 (ls : Ls) (st : List Value) (z : Zz) (f : Fm) (E : Ej) (R : Kr) : Prop := xaload 0 q_X1_init_67 ls st z f E R
def q_X1_init_63 (ls : Ls) (st : List Value) (z : Zz) (f : Fm) (E : Ej) (R : Kr) : Prop := xput 1 7 .int q_X1_init_66 ls st z f E R
def q_X1_init_62 (ls : Ls) (st : List Value) (z : Zz) (f : Fm) (E : Ej) (R : Kr) : Prop := xpush (.int (nI 0)) q_X1_init_63 ls st z f E R
def q_X1_init_61 (ls : Ls) (st : List Value) (z : Zz) (f : Fm) (E : Ej) (R : Kr) : Prop := xaload 0 q_X1_init_62 ls st z f E R
def q_X1_init_58 (ls : Ls) (st : List Value) (z : Zz) (f : Fm) (E : Ej) (R : Kr) : Prop := xput 1 6 .int q_X1_init_61 ls st z f E R
def q_X1_init_56 (ls : Ls) (st : List Value) (z : Zz) (f : Fm) (E : Ej) (R : Kr) : Prop := xpush (.int (nI 8)) q_X1_init_58 ls st z f E R
def q_X1_init_55 (ls : Ls) (st : List Value) (z : Zz) (f : Fm) (E : Ej) (R : Kr) : Prop := xaload 0 q_X1_init_56 ls st z f E R
def q_X1_init_52 (ls : Ls) (st : List Value) (z : Zz) (f : Fm) (E : Ej) (R : Kr) : Prop := xput 1 5 .int q_X1_init_55 ls st z f E R
def q_X1_init_51 (ls : Ls) (st : List Value) (z : Zz) (f : Fm) (E : Ej) (R : Kr) : Prop := xpush (.int (nI 0)) q_X1_init_52 ls st z f E R
def q_X1_init_50 (ls : Ls) (st : List Value) (z : Zz) (f : Fm) (E : Ej) (R : Kr) : Prop := xaload 0 q_X1_init_51 ls st z f E R
def q_X1_init_47 (ls : Ls) (st : List Value) (z : Zz) (f : Fm) (E : Ej) (R : Kr) : Prop := xput 1 4 .int q_X1_init_50 ls st z f E R
def q_X1_init_46 (ls : Ls) (st : List Value) (z : Zz) (f : Fm) (E : Ej) (R : Kr) : Prop := xpush (.int (nI 0)) q_X1_init_47 ls st z f E R
def q_X1_init_45 (ls : Ls) (st : List Value) (z : Zz) (f : Fm) (E : Ej) (R : Kr) : Prop := xaload 0 q_X1_init_46 ls st z f E R
def q_X1_init_42 (ls : Ls) (st : List Value) (z : Zz) (f : Fm) (E : Ej) (R : Kr) : Prop := xput 1 3 (.object "FortHeralds$Letters") q_X1_init_45 ls st z f E R
def q_X1_init_39 (ls : Ls) (st : List Value) (z : Zz) (f : Fm) (E : Ej) (R : Kr) : Prop := xcall 1 5 Sp_X5_init 5 50 q_X1_init_42 ls st z f E R
def q_X1_init_38 (ls : Ls) (st : List Value) (z : Zz) (f : Fm) (E : Ej) (R : Kr) : Prop := xdup q_X1_init_39 ls st z f E R
def q_X1_init_35 (ls : Ls) (st : List Value) (z : Zz) (f : Fm) (E : Ej) (R : Kr) : Prop := xnew 4 6 [.null, .null, .null, .null, .null, .int 0] q_X1_init_38 ls st z f E R
def q_X1_init_34 (ls : Ls) (st : List Value) (z : Zz) (f : Fm) (E : Ej) (R : Kr) : Prop := xaload 0 q_X1_init_35 ls st z f E R
def q_X1_init_31 (ls : Ls) (st : List Value) (z : Zz) (f : Fm) (E : Ej) (R : Kr) : Prop := xput 1 2 (.object "FortHeralds$Routes") q_X1_init_34 ls st z f E R
def q_X1_init_28 (ls : Ls) (st : List Value) (z : Zz) (f : Fm) (E : Ej) (R : Kr) : Prop := xcall 1 9 Sp_X9_init 36 288 q_X1_init_31 ls st z f E R
def q_X1_init_27 (ls : Ls) (st : List Value) (z : Zz) (f : Fm) (E : Ej) (R : Kr) : Prop := xdup q_X1_init_28 ls st z f E R
def q_X1_init_24 (ls : Ls) (st : List Value) (z : Zz) (f : Fm) (E : Ej) (R : Kr) : Prop := xnew 8 4 [.null, .null, .null, .null] q_X1_init_27 ls st z f E R
def q_X1_init_23 (ls : Ls) (st : List Value) (z : Zz) (f : Fm) (E : Ej) (R : Kr) : Prop := xaload 0 q_X1_init_24 ls st z f E R
def q_X1_init_20 (ls : Ls) (st : List Value) (z : Zz) (f : Fm) (E : Ej) (R : Kr) : Prop := xput 1 1 (.object "FortHeralds$Roads") q_X1_init_23 ls st z f E R
def q_X1_init_17 (ls : Ls) (st : List Value) (z : Zz) (f : Fm) (E : Ej) (R : Kr) : Prop := xcall 1 8 Sp_X8_init 9 72 q_X1_init_20 ls st z f E R
def q_X1_init_16 (ls : Ls) (st : List Value) (z : Zz) (f : Fm) (E : Ej) (R : Kr) : Prop := xdup q_X1_init_17 ls st z f E R
def q_X1_init_13 (ls : Ls) (st : List Value) (z : Zz) (f : Fm) (E : Ej) (R : Kr) : Prop := xnew 7 2 [.null, .int 0] q_X1_init_16 ls st z f E R
def q_X1_init_12 (ls : Ls) (st : List Value) (z : Zz) (f : Fm) (E : Ej) (R : Kr) : Prop := xaload 0 q_X1_init_13 ls st z f E R
def q_X1_init_9 (ls : Ls) (st : List Value) (z : Zz) (f : Fm) (E : Ej) (R : Kr) : Prop := xput 1 0 (.array .boolean) q_X1_init_12 ls st z f E R
def q_X1_init_7 (ls : Ls) (st : List Value) (z : Zz) (f : Fm) (E : Ej) (R : Kr) : Prop := xnewa 2 q_X1_init_9 ls st z f E R
def q_X1_init_5 (ls : Ls) (st : List Value) (z : Zz) (f : Fm) (E : Ej) (R : Kr) : Prop := xpush (.int (nI 8)) q_X1_init_7 ls st z f E R
def q_X1_init_4 (ls : Ls) (st : List Value) (z : Zz) (f : Fm) (E : Ej) (R : Kr) : Prop := xaload 0 q_X1_init_5 ls st z f E R
def q_X1_init_1 (ls : Ls) (st : List Value) (z : Zz) (f : Fm) (E : Ej) (R : Kr) : Prop := xobj q_X1_init_4 ls st z f E R
def q_X1_init_0 (ls : Ls) (st : List Value) (z : Zz) (f : Fm) (E : Ej) (R : Kr) : Prop := xaload 0 q_X1_init_1 ls st z f E R
set_option maxRecDepth 100000 in
theorem t_X1_init {s0 : State} {D : va_G} {ids : Nat → ClassId} {V : Nat → Nat} {l : Launch} {K : Kr} {E : Ej} (G : GG s0 D ids V) (X : EnX s0 D ids l RX1 cX1_init 1 none "<init>" rm_X1_init K E) : Sd E K 0 q_X1_init_0 := by
  have h76 : Sd E K 76 q_X1_init_76 := sd_vret X (by decide +kernel : decode cX1_init 76 = .ok (.return_, 1))
  have h73 : Sd E K 73 q_X1_init_73 := sd_put X (by decide +kernel : decode cX1_init 73 = .ok (.putfield 52, 3)) ok_X1 (Nat.le_of_ble_eq_true rfl) rfl rfl wd_181 h76
  have h72 : Sd E K 72 q_X1_init_72 := sd_iconst X (by decide +kernel : decode cX1_init 72 = .ok (.iconst 0, 1)) (by decide +kernel) h73
  have h71 : Sd E K 71 q_X1_init_71 := sd_aload_n X (by decide +kernel : decode cX1_init 71 = .ok (.aload_n 0, 1)) rfl h72
  have h68 : Sd E K 68 q_X1_init_68 := sd_put X (by decide +kernel : decode cX1_init 68 = .ok (.putfield 49, 3)) ok_X1 (Nat.le_of_ble_eq_true rfl) rfl rfl wd_178 h71
  have h67 : Sd E K 67 q_X1_init_67 := sd_iconst X (by decide +kernel : decode cX1_init 67 = .ok (.iconst 0, 1)) (by decide +kernel) h68
  have h66 : Sd E K 66 q_X1_init_66 := sd_aload_n X (by decide +kernel : decode cX1_init 66 = .ok (.aload_n 0, 1)) rfl h67
  have h63 : Sd E K 63 q_X1_init_63 := sd_put X (by decide +kernel : decode cX1_init 63 = .ok (.putfield 46, 3)) ok_X1 (Nat.le_of_ble_eq_true rfl) rfl rfl wd_175 h66
  have h62 : Sd E K 62 q_X1_init_62 := sd_iconst X (by decide +kernel : decode cX1_init 62 = .ok (.iconst 0, 1)) (by decide +kernel) h63
  have h61 : Sd E K 61 q_X1_init_61 := sd_aload_n X (by decide +kernel : decode cX1_init 61 = .ok (.aload_n 0, 1)) rfl h62
  have h58 : Sd E K 58 q_X1_init_58 := sd_put X (by decide +kernel : decode cX1_init 58 = .ok (.putfield 43, 3)) ok_X1 (Nat.le_of_ble_eq_true rfl) rfl rfl wd_171 h61
  have h56 : Sd E K 56 q_X1_init_56 := sd_bipush X (by decide +kernel : decode cX1_init 56 = .ok (.bipush 8, 2)) (by decide +kernel) h58
  have h55 : Sd E K 55 q_X1_init_55 := sd_aload_n X (by decide +kernel : decode cX1_init 55 = .ok (.aload_n 0, 1)) rfl h56
  have h52 : Sd E K 52 q_X1_init_52 := sd_put X (by decide +kernel : decode cX1_init 52 = .ok (.putfield 40, 3)) ok_X1 (Nat.le_of_ble_eq_true rfl) rfl rfl wd_167 h55
  have h51 : Sd E K 51 q_X1_init_51 := sd_iconst X (by decide +kernel : decode cX1_init 51 = .ok (.iconst 0, 1)) (by decide +kernel) h52
  have h50 : Sd E K 50 q_X1_init_50 := sd_aload_n X (by decide +kernel : decode cX1_init 50 = .ok (.aload_n 0, 1)) rfl h51
  have h47 : Sd E K 47 q_X1_init_47 := sd_put X (by decide +kernel : decode cX1_init 47 = .ok (.putfield 36, 3)) ok_X1 (Nat.le_of_ble_eq_true rfl) rfl rfl wd_162 h50
  have h46 : Sd E K 46 q_X1_init_46 := sd_iconst X (by decide +kernel : decode cX1_init 46 = .ok (.iconst 0, 1)) (by decide +kernel) h47
  have h45 : Sd E K 45 q_X1_init_45 := sd_aload_n X (by decide +kernel : decode cX1_init 45 = .ok (.aload_n 0, 1)) rfl h46
  have h42 : Sd E K 42 q_X1_init_42 := sd_putF X (by decide +kernel : decode cX1_init 42 = .ok (.putfield 32, 3)) ok_X1 (Nat.le_of_ble_eq_true rfl) rfl rfl rfl wd_158 h45
  have h39 : Sd E K 39 q_X1_init_39 := sd_callIN (n := 0) (ci := 4) X (ct_X5_init G) (by decide +kernel : decode cX1_init 39 = .ok (.invokespecial 31, 3)) wd_120 (G.nest_118) wd_119 wd_29 rfl (by decide +kernel) ⟨Nat.le_of_ble_eq_true rfl, Nat.le_of_ble_eq_true rfl⟩ h42
  have h38 : Sd E K 38 q_X1_init_38 := sd_dup X (by decide +kernel : decode cX1_init 38 = .ok (.dup, 1)) h39
  have h35 : Sd E K 35 q_X1_init_35 := sd_new X (by decide +kernel : decode cX1_init 35 = .ok (.new 29, 3)) ok_X5 (by decide) wd_116 wd_117 wd_29 h38
  have h34 : Sd E K 34 q_X1_init_34 := sd_aload_n X (by decide +kernel : decode cX1_init 34 = .ok (.aload_n 0, 1)) rfl h35
  have h31 : Sd E K 31 q_X1_init_31 := sd_putF X (by decide +kernel : decode cX1_init 31 = .ok (.putfield 25, 3)) ok_X1 (Nat.le_of_ble_eq_true rfl) rfl rfl rfl wd_153 h34
  have h28 : Sd E K 28 q_X1_init_28 := sd_callIN (n := 0) (ci := 8) X (ct_X9_init G) (by decide +kernel : decode cX1_init 28 = .ok (.invokespecial 24, 3)) wd_92 (G.nest_90) wd_91 wd_28 rfl (by decide +kernel) ⟨Nat.le_of_ble_eq_true rfl, Nat.le_of_ble_eq_true rfl⟩ h31
  have h27 : Sd E K 27 q_X1_init_27 := sd_dup X (by decide +kernel : decode cX1_init 27 = .ok (.dup, 1)) h28
  have h24 : Sd E K 24 q_X1_init_24 := sd_new X (by decide +kernel : decode cX1_init 24 = .ok (.new 22, 3)) ok_X9 (by decide) wd_88 wd_89 wd_28 h27
  have h23 : Sd E K 23 q_X1_init_23 := sd_aload_n X (by decide +kernel : decode cX1_init 23 = .ok (.aload_n 0, 1)) rfl h24
  have h20 : Sd E K 20 q_X1_init_20 := sd_putF X (by decide +kernel : decode cX1_init 20 = .ok (.putfield 18, 3)) ok_X1 (Nat.le_of_ble_eq_true rfl) rfl rfl rfl wd_147 h23
  have h17 : Sd E K 17 q_X1_init_17 := sd_callIN (n := 0) (ci := 7) X (ct_X8_init G) (by decide +kernel : decode cX1_init 17 = .ok (.invokespecial 17, 3)) wd_73 (G.nest_71) wd_72 wd_27 rfl (by decide +kernel) ⟨Nat.le_of_ble_eq_true rfl, Nat.le_of_ble_eq_true rfl⟩ h20
  have h16 : Sd E K 16 q_X1_init_16 := sd_dup X (by decide +kernel : decode cX1_init 16 = .ok (.dup, 1)) h17
  have h13 : Sd E K 13 q_X1_init_13 := sd_new X (by decide +kernel : decode cX1_init 13 = .ok (.new 15, 3)) ok_X8 (by decide) wd_69 wd_70 wd_27 h16
  have h12 : Sd E K 12 q_X1_init_12 := sd_aload_n X (by decide +kernel : decode cX1_init 12 = .ok (.aload_n 0, 1)) rfl h13
  have h9 : Sd E K 9 q_X1_init_9 := sd_putF X (by decide +kernel : decode cX1_init 9 = .ok (.putfield 9, 3)) ok_X1 (Nat.le_of_ble_eq_true rfl) rfl rfl rfl wd_143 h12
  have h7 : Sd E K 7 q_X1_init_7 := sd_newa X (Nat.le_of_ble_eq_true rfl) rfl rfl (by decide) (by decide +kernel : decode cX1_init 7 = .ok (.newarray .boolean, 2)) wd_86 (G.nm2) h9
  have h5 : Sd E K 5 q_X1_init_5 := sd_bipush X (by decide +kernel : decode cX1_init 5 = .ok (.bipush 8, 2)) (by decide +kernel) h7
  have h4 : Sd E K 4 q_X1_init_4 := sd_aload_n X (by decide +kernel : decode cX1_init 4 = .ok (.aload_n 0, 1)) rfl h5
  have h1 : Sd E K 1 q_X1_init_1 := sd_obj X (by decide +kernel : decode cX1_init 1 = .ok (.invokespecial 3, 3)) wd_68 (Nat.le_of_ble_eq_true rfl) (Nat.le_of_ble_eq_true rfl) h4
  have h0 : Sd E K 0 q_X1_init_0 := sd_aload_n X (by decide +kernel : decode cX1_init 0 = .ok (.aload_n 0, 1)) rfl h1
  exact h0
set_option maxHeartbeats 4000000 in
set_option maxRecDepth 100000 in
theorem ct_X1_init {s0 : State} {D : va_G} {ids : Nat → ClassId} {V : Nat → Nat} {l : Launch} (G : GG s0 D ids V) : CT s0 D ids l yX1_init cX1_init 1 none rm_X1_init Sp_X1_init := CT.of (by decide +kernel) G.k (by
  rintro as z f K E ⟨a, rfl, rfl, h1, hK⟩ X
  refine ⟨Nat.le_of_ble_eq_true rfl, by simp [Value.category], t_X1_init G X _ _ _ _ ?_⟩
  simp (disch := omega) only [q_X1_init_0, q_X1_init_1, q_X1_init_4, q_X1_init_5, q_X1_init_7, q_X1_init_9, q_X1_init_12, q_X1_init_13, q_X1_init_16, q_X1_init_17, q_X1_init_20, q_X1_init_23, q_X1_init_24, q_X1_init_27, q_X1_init_28, q_X1_init_31, q_X1_init_34, q_X1_init_35, q_X1_init_38, q_X1_init_39, q_X1_init_42, q_X1_init_45, q_X1_init_46, q_X1_init_47, q_X1_init_50, q_X1_init_51, q_X1_init_52, q_X1_init_55, q_X1_init_56, q_X1_init_58, q_X1_init_61, q_X1_init_62, q_X1_init_63, q_X1_init_66, q_X1_init_67, q_X1_init_68, q_X1_init_71, q_X1_init_72, q_X1_init_73, q_X1_init_76, xpush, xiload, xaload, xlload, xfload, xdload, lkill, xistore, xastore, xfstore, xlstore, xdstore, xiinc, xbin, xdiv, xun, xlbin, xi2l, xi2f, xi2d, xlcmp, xfcmp, xdcmp, xfdiv, xddiv, c1, xdup, xpop, xdup_x1, xdup2, xif, xicmp, xtab, xtabL, xget, xput, xald, xast, xalen, xnew, xnewa, c1s, recvOk, xcall, kont, xret, xlret, xfret, xdret, xaret, xvret, xs, xnewq, xastq, xcopy, xcopyF, xobj, xmax, xmin, xdead, xpushq, xmna, ls0, List.map_cons, List.map_nil, List.length_cons, List.length_nil, List.replicate, List.append_nil, List.cons_append, List.nil_append, List.getElem?_cons_zero, List.getElem?_cons_succ, List.getElem?_nil, List.set_cons_zero, List.set_cons_succ, List.take_succ_cons, List.take_zero, List.drop_succ_cons, List.drop_zero, List.reverse_cons, List.reverse_nil, List.sum_cons, List.sum_nil, Value.category, Option.toList_some, Option.toList_none, Nat.reduceAdd, Nat.reduceSub, Nat.reduceLT, Nat.reduceLeDiff, Nat.zero_add, Nat.le_refl, true_and, and_true, Nat.sub_zero, Nat.zero_lt_succ, Nat.zero_le, Nat.not_lt_zero, Nat.reduceEqDiff, Nat.one_ne_zero, nI_toInt, Int.reduceEq, Int.reduceAdd, Int.reduceLT, Int.reduceLE, Int.cast_ofNat_Int, reduceIte, or_false, false_or, eq_self, or_true, true_or, or_self, nI_clamp, vp_in_nI, nI_ltI, nI_leI, nI_eq, nI_add, nI_zero9, nI_nlt0, nI_le0, nI_lt0, arG, va_rf, not_false_eq_true, not_true_eq_false, false_implies, true_implies, implies_true, ne_eq, okv_int, okv_z0, okv_z1, okv_zN, okv_ref, okv_arr, okv_null, vn_z0, vn_z1, vn_zN, nr_int, nr_z, va_up_self, up_fr, rw1_j, rw1_up, h1]
  refine ⟨Nat.le_of_ble_eq_true rfl, Nat.le_of_ble_eq_true rfl, Nat.le_of_ble_eq_true rfl, Nat.le_of_ble_eq_true rfl, Nat.le_of_ble_eq_true rfl, Nat.le_of_ble_eq_true rfl, ?_⟩
  refine ⟨a + 1 + 1, rfl, rfl, va_up_self _ _ _, fun f1 g1 fr1 => ?_⟩
  have b1 := fr1 a (by omega)
  have s1 := fr1 (a + 1) (by omega)
  have o1 : ∀ q, q < a → f1 q = f q := fun q hq => (fr1 q (by omega)).trans (by simp (disch := omega) only [up_fr])
  simp (disch := omega) only [up_fr, va_up_self] at b1 s1
  clear fr1
  simp (disch := omega) only [q_X1_init_0, q_X1_init_1, q_X1_init_4, q_X1_init_5, q_X1_init_7, q_X1_init_9, q_X1_init_12, q_X1_init_13, q_X1_init_16, q_X1_init_17, q_X1_init_20, q_X1_init_23, q_X1_init_24, q_X1_init_27, q_X1_init_28, q_X1_init_31, q_X1_init_34, q_X1_init_35, q_X1_init_38, q_X1_init_39, q_X1_init_42, q_X1_init_45, q_X1_init_46, q_X1_init_47, q_X1_init_50, q_X1_init_51, q_X1_init_52, q_X1_init_55, q_X1_init_56, q_X1_init_58, q_X1_init_61, q_X1_init_62, q_X1_init_63, q_X1_init_66, q_X1_init_67, q_X1_init_68, q_X1_init_71, q_X1_init_72, q_X1_init_73, q_X1_init_76, xpush, xiload, xaload, xlload, xfload, xdload, lkill, xistore, xastore, xfstore, xlstore, xdstore, xiinc, xbin, xdiv, xun, xlbin, xi2l, xi2f, xi2d, xlcmp, xfcmp, xdcmp, xfdiv, xddiv, c1, xdup, xpop, xdup_x1, xdup2, xif, xicmp, xtab, xtabL, xget, xput, xald, xast, xalen, xnew, xnewa, c1s, recvOk, xcall, kont, xret, xlret, xfret, xdret, xaret, xvret, xs, xnewq, xastq, xcopy, xcopyF, xobj, xmax, xmin, xdead, xpushq, xmna, ls0, List.map_cons, List.map_nil, List.length_cons, List.length_nil, List.replicate, List.append_nil, List.cons_append, List.nil_append, List.getElem?_cons_zero, List.getElem?_cons_succ, List.getElem?_nil, List.set_cons_zero, List.set_cons_succ, List.take_succ_cons, List.take_zero, List.drop_succ_cons, List.drop_zero, List.reverse_cons, List.reverse_nil, List.sum_cons, List.sum_nil, Value.category, Option.toList_some, Option.toList_none, Nat.reduceAdd, Nat.reduceSub, Nat.reduceLT, Nat.reduceLeDiff, Nat.zero_add, Nat.le_refl, true_and, and_true, Nat.sub_zero, Nat.zero_lt_succ, Nat.zero_le, Nat.not_lt_zero, Nat.reduceEqDiff, Nat.one_ne_zero, nI_toInt, Int.reduceEq, Int.reduceAdd, Int.reduceLT, Int.reduceLE, Int.cast_ofNat_Int, reduceIte, or_false, false_or, eq_self, or_true, true_or, or_self, nI_clamp, vp_in_nI, nI_ltI, nI_leI, nI_eq, nI_add, nI_zero9, nI_nlt0, nI_le0, nI_lt0, arG, va_rf, not_false_eq_true, not_true_eq_false, false_implies, true_implies, implies_true, ne_eq, okv_int, okv_z0, okv_z1, okv_zN, okv_ref, okv_arr, okv_null, vn_z0, vn_z1, vn_zN, nr_int, nr_z, va_up_self, up_fr, rw1_j, rw1_up, b1]
  refine ⟨Nat.le_of_ble_eq_true rfl, Nat.le_of_ble_eq_true rfl, Nat.le_of_ble_eq_true rfl, Nat.le_of_ble_eq_true rfl, ?_⟩
  refine ⟨a + 12, rfl, rfl, va_up_self _ _ _, fun f2 g2 fr2 => ?_⟩
  have b2 := fr2 a (by omega)
  have s2 := (fr2 (a + 1) (by omega)).trans (by simp (disch := omega) only [up_fr]; exact s1)
  have r2 : isRd f2 (a + 1 + 1) cmN := g1.fr (fun q h1 h2 => (fr2 q (by omega)).trans (by simp (disch := omega) only [up_fr]))
  have o2 : ∀ q, q < a → f2 q = f q := fun q hq => (fr2 q (by omega)).trans (by simp (disch := omega) only [up_fr]; exact o1 q hq)
  simp (disch := omega) only [up_fr, va_up_self] at b2
  clear fr2 o1 g1 s1 b1
  simp (disch := omega) only [q_X1_init_0, q_X1_init_1, q_X1_init_4, q_X1_init_5, q_X1_init_7, q_X1_init_9, q_X1_init_12, q_X1_init_13, q_X1_init_16, q_X1_init_17, q_X1_init_20, q_X1_init_23, q_X1_init_24, q_X1_init_27, q_X1_init_28, q_X1_init_31, q_X1_init_34, q_X1_init_35, q_X1_init_38, q_X1_init_39, q_X1_init_42, q_X1_init_45, q_X1_init_46, q_X1_init_47, q_X1_init_50, q_X1_init_51, q_X1_init_52, q_X1_init_55, q_X1_init_56, q_X1_init_58, q_X1_init_61, q_X1_init_62, q_X1_init_63, q_X1_init_66, q_X1_init_67, q_X1_init_68, q_X1_init_71, q_X1_init_72, q_X1_init_73, q_X1_init_76, xpush, xiload, xaload, xlload, xfload, xdload, lkill, xistore, xastore, xfstore, xlstore, xdstore, xiinc, xbin, xdiv, xun, xlbin, xi2l, xi2f, xi2d, xlcmp, xfcmp, xdcmp, xfdiv, xddiv, c1, xdup, xpop, xdup_x1, xdup2, xif, xicmp, xtab, xtabL, xget, xput, xald, xast, xalen, xnew, xnewa, c1s, recvOk, xcall, kont, xret, xlret, xfret, xdret, xaret, xvret, xs, xnewq, xastq, xcopy, xcopyF, xobj, xmax, xmin, xdead, xpushq, xmna, ls0, List.map_cons, List.map_nil, List.length_cons, List.length_nil, List.replicate, List.append_nil, List.cons_append, List.nil_append, List.getElem?_cons_zero, List.getElem?_cons_succ, List.getElem?_nil, List.set_cons_zero, List.set_cons_succ, List.take_succ_cons, List.take_zero, List.drop_succ_cons, List.drop_zero, List.reverse_cons, List.reverse_nil, List.sum_cons, List.sum_nil, Value.category, Option.toList_some, Option.toList_none, Nat.reduceAdd, Nat.reduceSub, Nat.reduceLT, Nat.reduceLeDiff, Nat.zero_add, Nat.le_refl, true_and, and_true, Nat.sub_zero, Nat.zero_lt_succ, Nat.zero_le, Nat.not_lt_zero, Nat.reduceEqDiff, Nat.one_ne_zero, nI_toInt, Int.reduceEq, Int.reduceAdd, Int.reduceLT, Int.reduceLE, Int.cast_ofNat_Int, reduceIte, or_false, false_or, eq_self, or_true, true_or, or_self, nI_clamp, vp_in_nI, nI_ltI, nI_leI, nI_eq, nI_add, nI_zero9, nI_nlt0, nI_le0, nI_lt0, arG, va_rf, not_false_eq_true, not_true_eq_false, false_implies, true_implies, implies_true, ne_eq, okv_int, okv_z0, okv_z1, okv_zN, okv_ref, okv_arr, okv_null, vn_z0, vn_z1, vn_zN, nr_int, nr_z, va_up_self, up_fr, rw1_j, rw1_up, b2]
  refine ⟨Nat.le_of_ble_eq_true rfl, Nat.le_of_ble_eq_true rfl, Nat.le_of_ble_eq_true rfl, Nat.le_of_ble_eq_true rfl, ?_⟩
  refine ⟨a + 49, rfl, rfl, va_up_self _ _ _, fun f3 g3 fr3 => ?_⟩
  have b3 := fr3 a (by omega)
  have s3 := (fr3 (a + 1) (by omega)).trans (by simp (disch := omega) only [up_fr]; exact s2)
  have r3 : isRd f3 (a + 1 + 1) cmN := r2.fr (fun q h1 h2 => (fr3 q (by omega)).trans (by simp (disch := omega) only [up_fr]))
  have t3 : isRt f3 (a + 12) cmN := g2.fr (fun q h1 h2 => (fr3 q (by omega)).trans (by simp (disch := omega) only [up_fr]))
  have o3 : ∀ q, q < a → f3 q = f q := fun q hq => (fr3 q (by omega)).trans (by simp (disch := omega) only [up_fr]; exact o2 q hq)
  simp (disch := omega) only [up_fr, va_up_self] at b3
  clear fr3 o2 r2 g2 s2 b2
  simp (disch := omega) only [q_X1_init_0, q_X1_init_1, q_X1_init_4, q_X1_init_5, q_X1_init_7, q_X1_init_9, q_X1_init_12, q_X1_init_13, q_X1_init_16, q_X1_init_17, q_X1_init_20, q_X1_init_23, q_X1_init_24, q_X1_init_27, q_X1_init_28, q_X1_init_31, q_X1_init_34, q_X1_init_35, q_X1_init_38, q_X1_init_39, q_X1_init_42, q_X1_init_45, q_X1_init_46, q_X1_init_47, q_X1_init_50, q_X1_init_51, q_X1_init_52, q_X1_init_55, q_X1_init_56, q_X1_init_58, q_X1_init_61, q_X1_init_62, q_X1_init_63, q_X1_init_66, q_X1_init_67, q_X1_init_68, q_X1_init_71, q_X1_init_72, q_X1_init_73, q_X1_init_76, xpush, xiload, xaload, xlload, xfload, xdload, lkill, xistore, xastore, xfstore, xlstore, xdstore, xiinc, xbin, xdiv, xun, xlbin, xi2l, xi2f, xi2d, xlcmp, xfcmp, xdcmp, xfdiv, xddiv, c1, xdup, xpop, xdup_x1, xdup2, xif, xicmp, xtab, xtabL, xget, xput, xald, xast, xalen, xnew, xnewa, c1s, recvOk, xcall, kont, xret, xlret, xfret, xdret, xaret, xvret, xs, xnewq, xastq, xcopy, xcopyF, xobj, xmax, xmin, xdead, xpushq, xmna, ls0, List.map_cons, List.map_nil, List.length_cons, List.length_nil, List.replicate, List.append_nil, List.cons_append, List.nil_append, List.getElem?_cons_zero, List.getElem?_cons_succ, List.getElem?_nil, List.set_cons_zero, List.set_cons_succ, List.take_succ_cons, List.take_zero, List.drop_succ_cons, List.drop_zero, List.reverse_cons, List.reverse_nil, List.sum_cons, List.sum_nil, Value.category, Option.toList_some, Option.toList_none, Nat.reduceAdd, Nat.reduceSub, Nat.reduceLT, Nat.reduceLeDiff, Nat.zero_add, Nat.le_refl, true_and, and_true, Nat.sub_zero, Nat.zero_lt_succ, Nat.zero_le, Nat.not_lt_zero, Nat.reduceEqDiff, Nat.one_ne_zero, nI_toInt, Int.reduceEq, Int.reduceAdd, Int.reduceLT, Int.reduceLE, Int.cast_ofNat_Int, reduceIte, or_false, false_or, eq_self, or_true, true_or, or_self, nI_clamp, vp_in_nI, nI_ltI, nI_leI, nI_eq, nI_add, nI_zero9, nI_nlt0, nI_le0, nI_lt0, arG, va_rf, not_false_eq_true, not_true_eq_false, false_implies, true_implies, implies_true, ne_eq, okv_int, okv_z0, okv_z1, okv_zN, okv_ref, okv_arr, okv_null, vn_z0, vn_z1, vn_zN, nr_int, nr_z, va_up_self, up_fr, rw1_j, rw1_up, b3]
  refine hK _ ⟨va_up_self _ _ _, ?_, ?_, ?_, ?_⟩ (fun q hq => by simp (disch := omega) only [up_fr]; exact o3 q hq)
  · simp (disch := omega) only [up_fr]
    exact s3
  · exact r3.fr (fun q h1 h2 => by simp (disch := omega) only [up_fr])
  · exact t3.fr (fun q h1 h2 => by simp (disch := omega) only [up_fr])
  · exact g3.fr (fun q h1 h2 => by simp (disch := omega) only [up_fr]))
abbrev Sp_X3_init : Spt := fun as z f K => ∃ (a : Nat), as = [.ref a] ∧ z = a + 1 ∧ f a = some (.inr (3, [.null])) ∧ ∀ f', isHd f' a cmN → (∀ q, q < a → f' q = f q) → K none (a + 38) f'
def rm_X3_init : Room := { frames := 2, cells := 37, slots := 292, locals := 40 }
def q_X3_init_15 (ls : Ls) (st : List Value) (z : Zz) (f : Fm) (E : Ej) (R : Kr) : Prop := xvret ls st z f E R
def q_X3_init_12 (ls : Ls) (st : List Value) (z : Zz) (f : Fm) (E : Ej) (R : Kr) : Prop := xput 3 0 (.object "FortHeralds$Routes") q_X3_init_15 ls st z f E R
def q_X3_init_9 (ls : Ls) (st : List Value) (z : Zz) (f : Fm) (E : Ej) (R : Kr) : Prop := xcall 1 9 Sp_X9_init 36 288 q_X3_init_12 ls st z f E R
def q_X3_init_8 (ls : Ls) (st : List Value) (z : Zz) (f : Fm) (E : Ej) (R : Kr) : Prop := xdup q_X3_init_9 ls st z f E R
def q_X3_init_5 (ls : Ls) (st : List Value) (z : Zz) (f : Fm) (E : Ej) (R : Kr) : Prop := xnew 8 4 [.null, .null, .null, .null] q_X3_init_8 ls st z f E R
def q_X3_init_4 (ls : Ls) (st : List Value) (z : Zz) (f : Fm) (E : Ej) (R : Kr) : Prop := xaload 0 q_X3_init_5 ls st z f E R
def q_X3_init_1 (ls : Ls) (st : List Value) (z : Zz) (f : Fm) (E : Ej) (R : Kr) : Prop := xobj q_X3_init_4 ls st z f E R
def q_X3_init_0 (ls : Ls) (st : List Value) (z : Zz) (f : Fm) (E : Ej) (R : Kr) : Prop := xaload 0 q_X3_init_1 ls st z f E R
set_option maxRecDepth 100000 in
theorem t_X3_init {s0 : State} {D : va_G} {ids : Nat → ClassId} {V : Nat → Nat} {l : Launch} {K : Kr} {E : Ej} (G : GG s0 D ids V) (X : EnX s0 D ids l RX3 cX3_init 1 none "<init>" rm_X3_init K E) : Sd E K 0 q_X3_init_0 := by
  have h15 : Sd E K 15 q_X3_init_15 := sd_vret X (by decide +kernel : decode cX3_init 15 = .ok (.return_, 1))
  have h12 : Sd E K 12 q_X3_init_12 := sd_putF X (by decide +kernel : decode cX3_init 12 = .ok (.putfield 12, 3)) ok_X3 (Nat.le_of_ble_eq_true rfl) rfl rfl rfl wd_213 h15
  have h9 : Sd E K 9 q_X3_init_9 := sd_callIN (n := 0) (ci := 8) X (ct_X9_init G) (by decide +kernel : decode cX3_init 9 = .ok (.invokespecial 11, 3)) wd_92 (G.nest_212) wd_91 wd_28 rfl (by decide +kernel) ⟨Nat.le_of_ble_eq_true rfl, Nat.le_of_ble_eq_true rfl⟩ h12
  have h8 : Sd E K 8 q_X3_init_8 := sd_dup X (by decide +kernel : decode cX3_init 8 = .ok (.dup, 1)) h9
  have h5 : Sd E K 5 q_X3_init_5 := sd_new X (by decide +kernel : decode cX3_init 5 = .ok (.new 9, 3)) ok_X9 (by decide) wd_211 wd_89 wd_28 h8
  have h4 : Sd E K 4 q_X3_init_4 := sd_aload_n X (by decide +kernel : decode cX3_init 4 = .ok (.aload_n 0, 1)) rfl h5
  have h1 : Sd E K 1 q_X3_init_1 := sd_obj X (by decide +kernel : decode cX3_init 1 = .ok (.invokespecial 3, 3)) wd_210 (Nat.le_of_ble_eq_true rfl) (Nat.le_of_ble_eq_true rfl) h4
  have h0 : Sd E K 0 q_X3_init_0 := sd_aload_n X (by decide +kernel : decode cX3_init 0 = .ok (.aload_n 0, 1)) rfl h1
  exact h0
set_option maxHeartbeats 4000000 in
set_option maxRecDepth 100000 in
theorem ct_X3_init {s0 : State} {D : va_G} {ids : Nat → ClassId} {V : Nat → Nat} {l : Launch} (G : GG s0 D ids V) : CT s0 D ids l yX3_init cX3_init 1 none rm_X3_init Sp_X3_init := CT.of (by decide +kernel) G.k (by
  rintro as z f K E ⟨a, rfl, rfl, h1, hK⟩ X
  refine ⟨Nat.le_of_ble_eq_true rfl, by simp [Value.category], t_X3_init G X _ _ _ _ ?_⟩
  simp (disch := omega) only [q_X3_init_0, q_X3_init_1, q_X3_init_4, q_X3_init_5, q_X3_init_8, q_X3_init_9, q_X3_init_12, q_X3_init_15, xpush, xiload, xaload, xlload, xfload, xdload, lkill, xistore, xastore, xfstore, xlstore, xdstore, xiinc, xbin, xdiv, xun, xlbin, xi2l, xi2f, xi2d, xlcmp, xfcmp, xdcmp, xfdiv, xddiv, c1, xdup, xpop, xdup_x1, xdup2, xif, xicmp, xtab, xtabL, xget, xput, xald, xast, xalen, xnew, xnewa, c1s, recvOk, xcall, kont, xret, xlret, xfret, xdret, xaret, xvret, xs, xnewq, xastq, xcopy, xcopyF, xobj, xmax, xmin, xdead, xpushq, xmna, ls0, List.map_cons, List.map_nil, List.length_cons, List.length_nil, List.replicate, List.append_nil, List.cons_append, List.nil_append, List.getElem?_cons_zero, List.getElem?_cons_succ, List.getElem?_nil, List.set_cons_zero, List.set_cons_succ, List.take_succ_cons, List.take_zero, List.drop_succ_cons, List.drop_zero, List.reverse_cons, List.reverse_nil, List.sum_cons, List.sum_nil, Value.category, Option.toList_some, Option.toList_none, Nat.reduceAdd, Nat.reduceSub, Nat.reduceLT, Nat.reduceLeDiff, Nat.zero_add, Nat.le_refl, true_and, and_true, Nat.sub_zero, Nat.zero_lt_succ, Nat.zero_le, Nat.not_lt_zero, Nat.reduceEqDiff, Nat.one_ne_zero, nI_toInt, Int.reduceEq, Int.reduceAdd, Int.reduceLT, Int.reduceLE, Int.cast_ofNat_Int, reduceIte, or_false, false_or, eq_self, or_true, true_or, or_self, nI_clamp, vp_in_nI, nI_ltI, nI_leI, nI_eq, nI_add, nI_zero9, nI_nlt0, nI_le0, nI_lt0, arG, va_rf, not_false_eq_true, not_true_eq_false, false_implies, true_implies, implies_true, ne_eq, okv_int, okv_z0, okv_z1, okv_zN, okv_ref, okv_arr, okv_null, vn_z0, vn_z1, vn_zN, nr_int, nr_z, va_up_self, up_fr, rw1_j, rw1_up, h1]
  refine ⟨Nat.le_of_ble_eq_true rfl, Nat.le_of_ble_eq_true rfl, Nat.le_of_ble_eq_true rfl, Nat.le_of_ble_eq_true rfl, ?_⟩
  refine ⟨a + 1, rfl, rfl, va_up_self _ _ _, fun f1 g1 fr1 => ?_⟩
  have b1 := fr1 a (by omega)
  simp (disch := omega) only [up_fr, va_up_self, h1] at b1
  simp (disch := omega) only [q_X3_init_0, q_X3_init_1, q_X3_init_4, q_X3_init_5, q_X3_init_8, q_X3_init_9, q_X3_init_12, q_X3_init_15, xpush, xiload, xaload, xlload, xfload, xdload, lkill, xistore, xastore, xfstore, xlstore, xdstore, xiinc, xbin, xdiv, xun, xlbin, xi2l, xi2f, xi2d, xlcmp, xfcmp, xdcmp, xfdiv, xddiv, c1, xdup, xpop, xdup_x1, xdup2, xif, xicmp, xtab, xtabL, xget, xput, xald, xast, xalen, xnew, xnewa, c1s, recvOk, xcall, kont, xret, xlret, xfret, xdret, xaret, xvret, xs, xnewq, xastq, xcopy, xcopyF, xobj, xmax, xmin, xdead, xpushq, xmna, ls0, List.map_cons, List.map_nil, List.length_cons, List.length_nil, List.replicate, List.append_nil, List.cons_append, List.nil_append, List.getElem?_cons_zero, List.getElem?_cons_succ, List.getElem?_nil, List.set_cons_zero, List.set_cons_succ, List.take_succ_cons, List.take_zero, List.drop_succ_cons, List.drop_zero, List.reverse_cons, List.reverse_nil, List.sum_cons, List.sum_nil, Value.category, Option.toList_some, Option.toList_none, Nat.reduceAdd, Nat.reduceSub, Nat.reduceLT, Nat.reduceLeDiff, Nat.zero_add, Nat.le_refl, true_and, and_true, Nat.sub_zero, Nat.zero_lt_succ, Nat.zero_le, Nat.not_lt_zero, Nat.reduceEqDiff, Nat.one_ne_zero, nI_toInt, Int.reduceEq, Int.reduceAdd, Int.reduceLT, Int.reduceLE, Int.cast_ofNat_Int, reduceIte, or_false, false_or, eq_self, or_true, true_or, or_self, nI_clamp, vp_in_nI, nI_ltI, nI_leI, nI_eq, nI_add, nI_zero9, nI_nlt0, nI_le0, nI_lt0, arG, va_rf, not_false_eq_true, not_true_eq_false, false_implies, true_implies, implies_true, ne_eq, okv_int, okv_z0, okv_z1, okv_zN, okv_ref, okv_arr, okv_null, vn_z0, vn_z1, vn_zN, nr_int, nr_z, va_up_self, up_fr, rw1_j, rw1_up, b1]
  exact hK _ ⟨va_up_self _ _ _, g1.fr (fun q h1 h2 => by simp (disch := omega) only [up_fr])⟩ (fun q hq => by simp (disch := omega) only [up_fr]; exact (fr1 q (by omega)).trans (up_fr (by omega))))
abbrev Sp_X11_init : Spt := fun as z f K => ∃ (a : Nat), as = [.ref a] ∧ z = a + 1 ∧ f a = some (.inr (10, [.null, .null, .int (nI 0), .int (nI 0)])) ∧ ∀ f', isWk f' a cmN cmN (-15) (-15) → (∀ q, q < a → f' q = f q) → K none (a + 94) f'
def rm_X11_init : Room := { frames := 3, cells := 93, slots := 733, locals := 60 }
def q_X11_init_38 (ls : Ls) (st : List Value) (z : Zz) (f : Fm) (E : Ej) (R : Kr) : Prop := xvret ls st z f E R
def q_X11_init_35 (ls : Ls) (st : List Value) (z : Zz) (f : Fm) (E : Ej) (R : Kr) : Prop := xput 10 3 .int q_X11_init_38 ls st z f E R
def q_X11_init_33 (ls : Ls) (st : List Value) (z : Zz) (f : Fm) (E : Ej) (R : Kr) : Prop := xpush (.int (-15)) q_X11_init_35 ls st z f E R
def q_X11_init_32 (ls : Ls) (st : List Value) (z : Zz) (f : Fm) (E : Ej) (R : Kr) : Prop := xaload 0 q_X11_init_33 ls st z f E R
def q_X11_init_29 (ls : Ls) (st : List Value) (z : Zz) (f : Fm) (E : Ej) (R : Kr) : Prop := xput 10 2 .int q_X11_init_32 ls st z f E R
def q_X11_init_27 (ls : Ls) (st : List Value) (z : Zz) (f : Fm) (E : Ej) (R : Kr) : Prop := xpush (.int (-15)) q_X11_init_29 ls st z f E R
def q_X11_init_26 (ls : Ls) (st : List Value) (z : Zz) (f : Fm) (E : Ej) (R : Kr) : Prop := xaload 0 q_X11_init_27 ls st z f E R
def q_X11_init_23 (ls : Ls) (st : List Value) (z : Zz) (f : Fm) (E : Ej) (R : Kr) : Prop := xput 10 1 (.object "FortHeralds$Heralds") q_X11_init_26 ls st z f E R
def q_X11_init_20 (ls : Ls) (st : List Value) (z : Zz) (f : Fm) (E : Ej) (R : Kr) : Prop := xcall 1 4 Sp_X3_init 37 292 q_X11_init_23 ls st z f E R
def q_X11_init_19 (ls : Ls) (st : List Value) (z : Zz) (f : Fm) (E : Ej) (R : Kr) : Prop := xdup q_X11_init_20 ls st z f E R
def q_X11_init_16 (ls : Ls) (st : List Value) (z : Zz) (f : Fm) (E : Ej) (R : Kr) : Prop := xnew 3 1 [.null] q_X11_init_19 ls st z f E R
def q_X11_init_15 (ls : Ls) (st : List Value) (z : Zz) (f : Fm) (E : Ej) (R : Kr) : Prop := xaload 0 q_X11_init_16 ls st z f E R
def q_X11_init_12 (ls : Ls) (st : List Value) (z : Zz) (f : Fm) (E : Ej) (R : Kr) : Prop := xput 10 0 (.object "FortHeralds$Country") q_X11_init_15 ls st z f E R
def q_X11_init_9 (ls : Ls) (st : List Value) (z : Zz) (f : Fm) (E : Ej) (R : Kr) : Prop := xcall 1 2 Sp_X1_init 54 430 q_X11_init_12 ls st z f E R
def q_X11_init_8 (ls : Ls) (st : List Value) (z : Zz) (f : Fm) (E : Ej) (R : Kr) : Prop := xdup q_X11_init_9 ls st z f E R
def q_X11_init_5 (ls : Ls) (st : List Value) (z : Zz) (f : Fm) (E : Ej) (R : Kr) : Prop := xnew 1 10 [.null, .null, .null, .null, .int 0, .int 0, .int 0, .int 0, .int 0, .int 0] q_X11_init_8 ls st z f E R
def q_X11_init_4 (ls : Ls) (st : List Value) (z : Zz) (f : Fm) (E : Ej) (R : Kr) : Prop := xaload 0 q_X11_init_5 ls st z f E R
def q_X11_init_1 (ls : Ls) (st : List Value) (z : Zz) (f : Fm) (E : Ej) (R : Kr) : Prop := xobj q_X11_init_4 ls st z f E R
def q_X11_init_0 (ls : Ls) (st : List Value) (z : Zz) (f : Fm) (E : Ej) (R : Kr) : Prop := xaload 0 q_X11_init_1 ls st z f E R
set_option maxRecDepth 100000 in
theorem t_X11_init {s0 : State} {D : va_G} {ids : Nat → ClassId} {V : Nat → Nat} {l : Launch} {K : Kr} {E : Ej} (G : GG s0 D ids V) (X : EnX s0 D ids l RX11 cX11_init 1 none "<init>" rm_X11_init K E) : Sd E K 0 q_X11_init_0 := by
  have h38 : Sd E K 38 q_X11_init_38 := sd_vret X (by decide +kernel : decode cX11_init 38 = .ok (.return_, 1))
  have h35 : Sd E K 35 q_X11_init_35 := sd_put X (by decide +kernel : decode cX11_init 35 = .ok (.putfield 29, 3)) ok_X11 (Nat.le_of_ble_eq_true rfl) rfl rfl wd_223 h38
  have h33 : Sd E K 33 q_X11_init_33 := sd_bipush X (by decide +kernel : decode cX11_init 33 = .ok (.bipush (-15), 2)) (by decide +kernel) h35
  have h32 : Sd E K 32 q_X11_init_32 := sd_aload_n X (by decide +kernel : decode cX11_init 32 = .ok (.aload_n 0, 1)) rfl h33
  have h29 : Sd E K 29 q_X11_init_29 := sd_put X (by decide +kernel : decode cX11_init 29 = .ok (.putfield 25, 3)) ok_X11 (Nat.le_of_ble_eq_true rfl) rfl rfl wd_221 h32
  have h27 : Sd E K 27 q_X11_init_27 := sd_bipush X (by decide +kernel : decode cX11_init 27 = .ok (.bipush (-15), 2)) (by decide +kernel) h29
  have h26 : Sd E K 26 q_X11_init_26 := sd_aload_n X (by decide +kernel : decode cX11_init 26 = .ok (.aload_n 0, 1)) rfl h27
  have h23 : Sd E K 23 q_X11_init_23 := sd_putF X (by decide +kernel : decode cX11_init 23 = .ok (.putfield 21, 3)) ok_X11 (Nat.le_of_ble_eq_true rfl) rfl rfl rfl wd_219 h26
  have h20 : Sd E K 20 q_X11_init_20 := sd_callIN (n := 0) (ci := 3) X (ct_X3_init G) (by decide +kernel : decode cX11_init 20 = .ok (.invokespecial 20, 3)) wd_209 (G.nest_207) wd_208 wd_30 rfl (by decide +kernel) ⟨Nat.le_of_ble_eq_true rfl, Nat.le_of_ble_eq_true rfl⟩ h23
  have h19 : Sd E K 19 q_X11_init_19 := sd_dup X (by decide +kernel : decode cX11_init 19 = .ok (.dup, 1)) h20
  have h16 : Sd E K 16 q_X11_init_16 := sd_new X (by decide +kernel : decode cX11_init 16 = .ok (.new 18, 3)) ok_X3 (by decide) wd_205 wd_206 wd_30 h19
  have h15 : Sd E K 15 q_X11_init_15 := sd_aload_n X (by decide +kernel : decode cX11_init 15 = .ok (.aload_n 0, 1)) rfl h16
  have h12 : Sd E K 12 q_X11_init_12 := sd_putF X (by decide +kernel : decode cX11_init 12 = .ok (.putfield 12, 3)) ok_X11 (Nat.le_of_ble_eq_true rfl) rfl rfl rfl wd_217 h15
  have h9 : Sd E K 9 q_X11_init_9 := sd_callIN (n := 0) (ci := 1) X (ct_X1_init G) (by decide +kernel : decode cX11_init 9 = .ok (.invokespecial 11, 3)) wd_67 (G.nest_65) wd_66 wd_26 rfl (by decide +kernel) ⟨Nat.le_of_ble_eq_true rfl, Nat.le_of_ble_eq_true rfl⟩ h12
  have h8 : Sd E K 8 q_X11_init_8 := sd_dup X (by decide +kernel : decode cX11_init 8 = .ok (.dup, 1)) h9
  have h5 : Sd E K 5 q_X11_init_5 := sd_new X (by decide +kernel : decode cX11_init 5 = .ok (.new 9, 3)) ok_X1 (by decide) wd_63 wd_64 wd_26 h8
  have h4 : Sd E K 4 q_X11_init_4 := sd_aload_n X (by decide +kernel : decode cX11_init 4 = .ok (.aload_n 0, 1)) rfl h5
  have h1 : Sd E K 1 q_X11_init_1 := sd_obj X (by decide +kernel : decode cX11_init 1 = .ok (.invokespecial 3, 3)) wd_62 (Nat.le_of_ble_eq_true rfl) (Nat.le_of_ble_eq_true rfl) h4
  have h0 : Sd E K 0 q_X11_init_0 := sd_aload_n X (by decide +kernel : decode cX11_init 0 = .ok (.aload_n 0, 1)) rfl h1
  exact h0
set_option maxHeartbeats 4000000 in
set_option maxRecDepth 100000 in
theorem ct_X11_init {s0 : State} {D : va_G} {ids : Nat → ClassId} {V : Nat → Nat} {l : Launch} (G : GG s0 D ids V) : CT s0 D ids l yX11_init cX11_init 1 none rm_X11_init Sp_X11_init := CT.of (by decide +kernel) G.k (by
  rintro as z f K E ⟨a, rfl, rfl, h1, hK⟩ X
  refine ⟨Nat.le_of_ble_eq_true rfl, by simp [Value.category], t_X11_init G X _ _ _ _ ?_⟩
  simp (disch := omega) only [q_X11_init_0, q_X11_init_1, q_X11_init_4, q_X11_init_5, q_X11_init_8, q_X11_init_9, q_X11_init_12, q_X11_init_15, q_X11_init_16, q_X11_init_19, q_X11_init_20, q_X11_init_23, q_X11_init_26, q_X11_init_27, q_X11_init_29, q_X11_init_32, q_X11_init_33, q_X11_init_35, q_X11_init_38, xpush, xiload, xaload, xlload, xfload, xdload, lkill, xistore, xastore, xfstore, xlstore, xdstore, xiinc, xbin, xdiv, xun, xlbin, xi2l, xi2f, xi2d, xlcmp, xfcmp, xdcmp, xfdiv, xddiv, c1, xdup, xpop, xdup_x1, xdup2, xif, xicmp, xtab, xtabL, xget, xput, xald, xast, xalen, xnew, xnewa, c1s, recvOk, xcall, kont, xret, xlret, xfret, xdret, xaret, xvret, xs, xnewq, xastq, xcopy, xcopyF, xobj, xmax, xmin, xdead, xpushq, xmna, ls0, List.map_cons, List.map_nil, List.length_cons, List.length_nil, List.replicate, List.append_nil, List.cons_append, List.nil_append, List.getElem?_cons_zero, List.getElem?_cons_succ, List.getElem?_nil, List.set_cons_zero, List.set_cons_succ, List.take_succ_cons, List.take_zero, List.drop_succ_cons, List.drop_zero, List.reverse_cons, List.reverse_nil, List.sum_cons, List.sum_nil, Value.category, Option.toList_some, Option.toList_none, Nat.reduceAdd, Nat.reduceSub, Nat.reduceLT, Nat.reduceLeDiff, Nat.zero_add, Nat.le_refl, true_and, and_true, Nat.sub_zero, Nat.zero_lt_succ, Nat.zero_le, Nat.not_lt_zero, Nat.reduceEqDiff, Nat.one_ne_zero, nI_toInt, Int.reduceEq, Int.reduceAdd, Int.reduceLT, Int.reduceLE, Int.cast_ofNat_Int, reduceIte, or_false, false_or, eq_self, or_true, true_or, or_self, nI_clamp, vp_in_nI, nI_ltI, nI_leI, nI_eq, nI_add, nI_zero9, nI_nlt0, nI_le0, nI_lt0, arG, va_rf, not_false_eq_true, not_true_eq_false, false_implies, true_implies, implies_true, ne_eq, okv_int, okv_z0, okv_z1, okv_zN, okv_ref, okv_arr, okv_null, vn_z0, vn_z1, vn_zN, nr_int, nr_z, va_up_self, up_fr, rw1_j, rw1_up, h1]
  refine ⟨Nat.le_of_ble_eq_true rfl, Nat.le_of_ble_eq_true rfl, Nat.le_of_ble_eq_true rfl, Nat.le_of_ble_eq_true rfl, ?_⟩
  refine ⟨a + 1, rfl, rfl, va_up_self _ _ _, fun f1 g1 fr1 => ?_⟩
  have b1 := fr1 a (by omega)
  have o1 : ∀ q, q < a → f1 q = f q := fun q hq => (fr1 q (by omega)).trans (up_fr (by omega))
  simp (disch := omega) only [up_fr, va_up_self, h1] at b1
  clear fr1
  simp (disch := omega) only [q_X11_init_0, q_X11_init_1, q_X11_init_4, q_X11_init_5, q_X11_init_8, q_X11_init_9, q_X11_init_12, q_X11_init_15, q_X11_init_16, q_X11_init_19, q_X11_init_20, q_X11_init_23, q_X11_init_26, q_X11_init_27, q_X11_init_29, q_X11_init_32, q_X11_init_33, q_X11_init_35, q_X11_init_38, xpush, xiload, xaload, xlload, xfload, xdload, lkill, xistore, xastore, xfstore, xlstore, xdstore, xiinc, xbin, xdiv, xun, xlbin, xi2l, xi2f, xi2d, xlcmp, xfcmp, xdcmp, xfdiv, xddiv, c1, xdup, xpop, xdup_x1, xdup2, xif, xicmp, xtab, xtabL, xget, xput, xald, xast, xalen, xnew, xnewa, c1s, recvOk, xcall, kont, xret, xlret, xfret, xdret, xaret, xvret, xs, xnewq, xastq, xcopy, xcopyF, xobj, xmax, xmin, xdead, xpushq, xmna, ls0, List.map_cons, List.map_nil, List.length_cons, List.length_nil, List.replicate, List.append_nil, List.cons_append, List.nil_append, List.getElem?_cons_zero, List.getElem?_cons_succ, List.getElem?_nil, List.set_cons_zero, List.set_cons_succ, List.take_succ_cons, List.take_zero, List.drop_succ_cons, List.drop_zero, List.reverse_cons, List.reverse_nil, List.sum_cons, List.sum_nil, Value.category, Option.toList_some, Option.toList_none, Nat.reduceAdd, Nat.reduceSub, Nat.reduceLT, Nat.reduceLeDiff, Nat.zero_add, Nat.le_refl, true_and, and_true, Nat.sub_zero, Nat.zero_lt_succ, Nat.zero_le, Nat.not_lt_zero, Nat.reduceEqDiff, Nat.one_ne_zero, nI_toInt, Int.reduceEq, Int.reduceAdd, Int.reduceLT, Int.reduceLE, Int.cast_ofNat_Int, reduceIte, or_false, false_or, eq_self, or_true, true_or, or_self, nI_clamp, vp_in_nI, nI_ltI, nI_leI, nI_eq, nI_add, nI_zero9, nI_nlt0, nI_le0, nI_lt0, arG, va_rf, not_false_eq_true, not_true_eq_false, false_implies, true_implies, implies_true, ne_eq, okv_int, okv_z0, okv_z1, okv_zN, okv_ref, okv_arr, okv_null, vn_z0, vn_z1, vn_zN, nr_int, nr_z, va_up_self, up_fr, rw1_j, rw1_up, b1]
  refine ⟨Nat.le_of_ble_eq_true rfl, Nat.le_of_ble_eq_true rfl, Nat.le_of_ble_eq_true rfl, Nat.le_of_ble_eq_true rfl, ?_⟩
  refine ⟨a + 56, rfl, rfl, va_up_self _ _ _, fun f2 g2 fr2 => ?_⟩
  have b2 := fr2 a (by omega)
  have c2 : isCo f2 (a + 1) cmN := g1.fr (fun q h1 h2 => (fr2 q (by omega)).trans (by simp (disch := omega) only [up_fr]))
  have o2 : ∀ q, q < a → f2 q = f q := fun q hq => (fr2 q (by omega)).trans (by simp (disch := omega) only [up_fr]; exact o1 q hq)
  simp (disch := omega) only [up_fr, va_up_self] at b2
  clear fr2 o1 g1 b1
  simp (disch := omega) only [q_X11_init_0, q_X11_init_1, q_X11_init_4, q_X11_init_5, q_X11_init_8, q_X11_init_9, q_X11_init_12, q_X11_init_15, q_X11_init_16, q_X11_init_19, q_X11_init_20, q_X11_init_23, q_X11_init_26, q_X11_init_27, q_X11_init_29, q_X11_init_32, q_X11_init_33, q_X11_init_35, q_X11_init_38, xpush, xiload, xaload, xlload, xfload, xdload, lkill, xistore, xastore, xfstore, xlstore, xdstore, xiinc, xbin, xdiv, xun, xlbin, xi2l, xi2f, xi2d, xlcmp, xfcmp, xdcmp, xfdiv, xddiv, c1, xdup, xpop, xdup_x1, xdup2, xif, xicmp, xtab, xtabL, xget, xput, xald, xast, xalen, xnew, xnewa, c1s, recvOk, xcall, kont, xret, xlret, xfret, xdret, xaret, xvret, xs, xnewq, xastq, xcopy, xcopyF, xobj, xmax, xmin, xdead, xpushq, xmna, ls0, List.map_cons, List.map_nil, List.length_cons, List.length_nil, List.replicate, List.append_nil, List.cons_append, List.nil_append, List.getElem?_cons_zero, List.getElem?_cons_succ, List.getElem?_nil, List.set_cons_zero, List.set_cons_succ, List.take_succ_cons, List.take_zero, List.drop_succ_cons, List.drop_zero, List.reverse_cons, List.reverse_nil, List.sum_cons, List.sum_nil, Value.category, Option.toList_some, Option.toList_none, Nat.reduceAdd, Nat.reduceSub, Nat.reduceLT, Nat.reduceLeDiff, Nat.zero_add, Nat.le_refl, true_and, and_true, Nat.sub_zero, Nat.zero_lt_succ, Nat.zero_le, Nat.not_lt_zero, Nat.reduceEqDiff, Nat.one_ne_zero, nI_toInt, Int.reduceEq, Int.reduceAdd, Int.reduceLT, Int.reduceLE, Int.cast_ofNat_Int, reduceIte, or_false, false_or, eq_self, or_true, true_or, or_self, nI_clamp, vp_in_nI, nI_ltI, nI_leI, nI_eq, nI_add, nI_zero9, nI_nlt0, nI_le0, nI_lt0, arG, va_rf, not_false_eq_true, not_true_eq_false, false_implies, true_implies, implies_true, ne_eq, okv_int, okv_z0, okv_z1, okv_zN, okv_ref, okv_arr, okv_null, vn_z0, vn_z1, vn_zN, nr_int, nr_z, va_up_self, up_fr, rw1_j, rw1_up, b2]
  exact hK _ ⟨va_up_self _ _ _, c2.fr (fun q h1 h2 => by simp (disch := omega) only [up_fr]), g2.fr (fun q h1 h2 => by simp (disch := omega) only [up_fr])⟩ (fun q hq => by simp (disch := omega) only [up_fr]; exact o2 q hq))
abbrev Sp_X2_init : Spt := fun as z f K => ∃ (a : Nat), as = [.ref a] ∧ z = a + 1 ∧ f a = some (.inr (2, [.null, .null, .null])) ∧ ∀ f', isDs f' a (fun _ => 0) (fun _ => 0) (fun _ => 0) → (∀ q, q < a → f' q = f q) → K none (a + 4) f'
def rm_X2_init : Room := { frames := 1, cells := 3, slots := 24, locals := 20 }
def q_X2_init_28 (ls : Ls) (st : List Value) (z : Zz) (f : Fm) (E : Ej) (R : Kr) : Prop := xvret ls st z f E R
def q_X2_init_25 (ls : Ls) (st : List Value) (z : Zz) (f : Fm) (E : Ej) (R : Kr) : Prop := xput 2 2 (.array .boolean) q_X2_init_28 ls st z f E R
def q_X2_init_23 (ls : Ls) (st : List Value) (z : Zz) (f : Fm) (E : Ej) (R : Kr) : Prop := xnewa 2 q_X2_init_25 ls st z f E R
def q_X2_init_21 (ls : Ls) (st : List Value) (z : Zz) (f : Fm) (E : Ej) (R : Kr) : Prop := xpush (.int (nI 8)) q_X2_init_23 ls st z f E R
def q_X2_init_20 (ls : Ls) (st : List Value) (z : Zz) (f : Fm) (E : Ej) (R : Kr) : Prop := xaload 0 q_X2_init_21 ls st z f E R
def q_X2_init_17 (ls : Ls) (st : List Value) (z : Zz) (f : Fm) (E : Ej) (R : Kr) : Prop := xput 2 1 (.array .int) q_X2_init_20 ls st z f E R
def q_X2_init_15 (ls : Ls) (st : List Value) (z : Zz) (f : Fm) (E : Ej) (R : Kr) : Prop := xnewa 1 q_X2_init_17 ls st z f E R
def q_X2_init_13 (ls : Ls) (st : List Value) (z : Zz) (f : Fm) (E : Ej) (R : Kr) : Prop := xpush (.int (nI 8)) q_X2_init_15 ls st z f E R
def q_X2_init_12 (ls : Ls) (st : List Value) (z : Zz) (f : Fm) (E : Ej) (R : Kr) : Prop := xaload 0 q_X2_init_13 ls st z f E R
def q_X2_init_9 (ls : Ls) (st : List Value) (z : Zz) (f : Fm) (E : Ej) (R : Kr) : Prop := xput 2 0 (.array .int) q_X2_init_12 ls st z f E R
def q_X2_init_7 (ls : Ls) (st : List Value) (z : Zz) (f : Fm) (E : Ej) (R : Kr) : Prop := xnewa 1 q_X2_init_9 ls st z f E R
def q_X2_init_5 (ls : Ls) (st : List Value) (z : Zz) (f : Fm) (E : Ej) (R : Kr) : Prop := xpush (.int (nI 8)) q_X2_init_7 ls st z f E R
def q_X2_init_4 (ls : Ls) (st : List Value) (z : Zz) (f : Fm) (E : Ej) (R : Kr) : Prop := xaload 0 q_X2_init_5 ls st z f E R
def q_X2_init_1 (ls : Ls) (st : List Value) (z : Zz) (f : Fm) (E : Ej) (R : Kr) : Prop := xobj q_X2_init_4 ls st z f E R
def q_X2_init_0 (ls : Ls) (st : List Value) (z : Zz) (f : Fm) (E : Ej) (R : Kr) : Prop := xaload 0 q_X2_init_1 ls st z f E R
set_option maxRecDepth 100000 in
theorem t_X2_init {s0 : State} {D : va_G} {ids : Nat → ClassId} {V : Nat → Nat} {l : Launch} {K : Kr} {E : Ej} (G : GG s0 D ids V) (X : EnX s0 D ids l RX2 cX2_init 1 none "<init>" rm_X2_init K E) : Sd E K 0 q_X2_init_0 := by
  have h28 : Sd E K 28 q_X2_init_28 := sd_vret X (by decide +kernel : decode cX2_init 28 = .ok (.return_, 1))
  have h25 : Sd E K 25 q_X2_init_25 := sd_putF X (by decide +kernel : decode cX2_init 25 = .ok (.putfield 18, 3)) ok_X2 (Nat.le_of_ble_eq_true rfl) rfl rfl rfl wd_266 h28
  have h23 : Sd E K 23 q_X2_init_23 := sd_newa X (Nat.le_of_ble_eq_true rfl) rfl rfl (by decide) (by decide +kernel : decode cX2_init 23 = .ok (.newarray .boolean, 2)) wd_86 (G.nm2) h25
  have h21 : Sd E K 21 q_X2_init_21 := sd_bipush X (by decide +kernel : decode cX2_init 21 = .ok (.bipush 8, 2)) (by decide +kernel) h23
  have h20 : Sd E K 20 q_X2_init_20 := sd_aload_n X (by decide +kernel : decode cX2_init 20 = .ok (.aload_n 0, 1)) rfl h21
  have h17 : Sd E K 17 q_X2_init_17 := sd_putF X (by decide +kernel : decode cX2_init 17 = .ok (.putfield 15, 3)) ok_X2 (Nat.le_of_ble_eq_true rfl) rfl rfl rfl wd_264 h20
  have h15 : Sd E K 15 q_X2_init_15 := sd_newa X (Nat.le_of_ble_eq_true rfl) rfl rfl (by decide) (by decide +kernel : decode cX2_init 15 = .ok (.newarray .int, 2)) wd_87 (G.nm1) h17
  have h13 : Sd E K 13 q_X2_init_13 := sd_bipush X (by decide +kernel : decode cX2_init 13 = .ok (.bipush 8, 2)) (by decide +kernel) h15
  have h12 : Sd E K 12 q_X2_init_12 := sd_aload_n X (by decide +kernel : decode cX2_init 12 = .ok (.aload_n 0, 1)) rfl h13
  have h9 : Sd E K 9 q_X2_init_9 := sd_putF X (by decide +kernel : decode cX2_init 9 = .ok (.putfield 9, 3)) ok_X2 (Nat.le_of_ble_eq_true rfl) rfl rfl rfl wd_262 h12
  have h7 : Sd E K 7 q_X2_init_7 := sd_newa X (Nat.le_of_ble_eq_true rfl) rfl rfl (by decide) (by decide +kernel : decode cX2_init 7 = .ok (.newarray .int, 2)) wd_87 (G.nm1) h9
  have h5 : Sd E K 5 q_X2_init_5 := sd_bipush X (by decide +kernel : decode cX2_init 5 = .ok (.bipush 8, 2)) (by decide +kernel) h7
  have h4 : Sd E K 4 q_X2_init_4 := sd_aload_n X (by decide +kernel : decode cX2_init 4 = .ok (.aload_n 0, 1)) rfl h5
  have h1 : Sd E K 1 q_X2_init_1 := sd_obj X (by decide +kernel : decode cX2_init 1 = .ok (.invokespecial 3, 3)) wd_261 (Nat.le_of_ble_eq_true rfl) (Nat.le_of_ble_eq_true rfl) h4
  have h0 : Sd E K 0 q_X2_init_0 := sd_aload_n X (by decide +kernel : decode cX2_init 0 = .ok (.aload_n 0, 1)) rfl h1
  exact h0
set_option maxHeartbeats 4000000 in
set_option maxRecDepth 100000 in
theorem ct_X2_init {s0 : State} {D : va_G} {ids : Nat → ClassId} {V : Nat → Nat} {l : Launch} (G : GG s0 D ids V) : CT s0 D ids l yX2_init cX2_init 1 none rm_X2_init Sp_X2_init := CT.of (by decide +kernel) G.k (by
  rintro as z f K E ⟨a, rfl, rfl, h1, hK⟩ X
  refine ⟨Nat.le_of_ble_eq_true rfl, by simp [Value.category], t_X2_init G X _ _ _ _ ?_⟩
  simp (disch := omega) only [q_X2_init_0, q_X2_init_1, q_X2_init_4, q_X2_init_5, q_X2_init_7, q_X2_init_9, q_X2_init_12, q_X2_init_13, q_X2_init_15, q_X2_init_17, q_X2_init_20, q_X2_init_21, q_X2_init_23, q_X2_init_25, q_X2_init_28, xpush, xiload, xaload, xlload, xfload, xdload, lkill, xistore, xastore, xfstore, xlstore, xdstore, xiinc, xbin, xdiv, xun, xlbin, xi2l, xi2f, xi2d, xlcmp, xfcmp, xdcmp, xfdiv, xddiv, c1, xdup, xpop, xdup_x1, xdup2, xif, xicmp, xtab, xtabL, xget, xput, xald, xast, xalen, xnew, xnewa, c1s, recvOk, xcall, kont, xret, xlret, xfret, xdret, xaret, xvret, xs, xnewq, xastq, xcopy, xcopyF, xobj, xmax, xmin, xdead, xpushq, xmna, ls0, List.map_cons, List.map_nil, List.length_cons, List.length_nil, List.replicate, List.append_nil, List.cons_append, List.nil_append, List.getElem?_cons_zero, List.getElem?_cons_succ, List.getElem?_nil, List.set_cons_zero, List.set_cons_succ, List.take_succ_cons, List.take_zero, List.drop_succ_cons, List.drop_zero, List.reverse_cons, List.reverse_nil, List.sum_cons, List.sum_nil, Value.category, Option.toList_some, Option.toList_none, Nat.reduceAdd, Nat.reduceSub, Nat.reduceLT, Nat.reduceLeDiff, Nat.zero_add, Nat.le_refl, true_and, and_true, Nat.sub_zero, Nat.zero_lt_succ, Nat.zero_le, Nat.not_lt_zero, Nat.reduceEqDiff, Nat.one_ne_zero, nI_toInt, Int.reduceEq, Int.reduceAdd, Int.reduceLT, Int.reduceLE, Int.cast_ofNat_Int, reduceIte, or_false, false_or, eq_self, or_true, true_or, or_self, nI_clamp, vp_in_nI, nI_ltI, nI_leI, nI_eq, nI_add, nI_zero9, nI_nlt0, nI_le0, nI_lt0, arG, va_rf, not_false_eq_true, not_true_eq_false, false_implies, true_implies, implies_true, ne_eq, okv_int, okv_z0, okv_z1, okv_zN, okv_ref, okv_arr, okv_null, vn_z0, vn_z1, vn_zN, nr_int, nr_z, va_up_self, up_fr, rw1_j, rw1_up, h1]
  refine ⟨Nat.le_of_ble_eq_true rfl, Nat.le_of_ble_eq_true rfl, Nat.le_of_ble_eq_true rfl, Nat.le_of_ble_eq_true rfl, Nat.le_of_ble_eq_true rfl, Nat.le_of_ble_eq_true rfl, ?_⟩
  refine hK _ ⟨va_up_self _ _ _, ?_⟩ (fun q hq => by simp (disch := omega) only [up_fr])
  unfold isI isZ
  simp (disch := omega) only [va_up_self, up_fr]
  exact ⟨rfl, rfl, rfl⟩)
abbrev Sp_X10_init : Spt := fun as z f K => ∃ (a : Nat), as = [.ref a] ∧ z = a + 1 ∧ f a = some (.inr (9, [.null, .null, .int (nI 0), .int (nI 0), .int (nI 0), .int (nI 0)])) ∧ ∀ f', isTr f' a (fun _ => 0) (fun _ => 0) 0 0 0 0 → (∀ q, q < a → f' q = f q) → K none (a + 3) f'
def rm_X10_init : Room := { frames := 1, cells := 2, slots := 16, locals := 20 }
def q_X10_init_40 (ls : Ls) (st : List Value) (z : Zz) (f : Fm) (E : Ej) (R : Kr) : Prop := xvret ls st z f E R
def q_X10_init_37 (ls : Ls) (st : List Value) (z : Zz) (f : Fm) (E : Ej) (R : Kr) : Prop := xput 9 5 .boolean q_X10_init_40 ls st z f E R
def q_X10_init_36 (ls : Ls) (st : List Value) (z : Zz) (f : Fm) (E : Ej) (R : Kr) : Prop := xpush (.int (nI 0)) q_X10_init_37 ls st z f E R
def q_X10_init_35 (ls : Ls) (st : List Value) (z : Zz) (f : Fm) (E : Ej) (R : Kr) : Prop := xaload 0 q_X10_init_36 ls st z f E R
def q_X10_init_32 (ls : Ls) (st : List Value) (z : Zz) (f : Fm) (E : Ej) (R : Kr) : Prop := xput 9 4 .int q_X10_init_35 ls st z f E R
def q_X10_init_31 (ls : Ls) (st : List Value) (z : Zz) (f : Fm) (E : Ej) (R : Kr) : Prop := xpush (.int (nI 0)) q_X10_init_32 ls st z f E R
def q_X10_init_30 (ls : Ls) (st : List Value) (z : Zz) (f : Fm) (E : Ej) (R : Kr) : Prop := xaload 0 q_X10_init_31 ls st z f E R
def q_X10_init_27 (ls : Ls) (st : List Value) (z : Zz) (f : Fm) (E : Ej) (R : Kr) : Prop := xput 9 3 .int q_X10_init_30 ls st z f E R
def q_X10_init_26 (ls : Ls) (st : List Value) (z : Zz) (f : Fm) (E : Ej) (R : Kr) : Prop := xpush (.int (nI 0)) q_X10_init_27 ls st z f E R
def q_X10_init_25 (ls : Ls) (st : List Value) (z : Zz) (f : Fm) (E : Ej) (R : Kr) : Prop := xaload 0 q_X10_init_26 ls st z f E R
def q_X10_init_22 (ls : Ls) (st : List Value) (z : Zz) (f : Fm) (E : Ej) (R : Kr) : Prop := xput 9 2 .int q_X10_init_25 ls st z f E R
def q_X10_init_21 (ls : Ls) (st : List Value) (z : Zz) (f : Fm) (E : Ej) (R : Kr) : Prop := xpush (.int (nI 0)) q_X10_init_22 ls st z f E R
def q_X10_init_20 (ls : Ls) (st : List Value) (z : Zz) (f : Fm) (E : Ej) (R : Kr) : Prop := xaload 0 q_X10_init_21 ls st z f E R
def q_X10_init_17 (ls : Ls) (st : List Value) (z : Zz) (f : Fm) (E : Ej) (R : Kr) : Prop := xput 9 1 (.array .boolean) q_X10_init_20 ls st z f E R
def q_X10_init_15 (ls : Ls) (st : List Value) (z : Zz) (f : Fm) (E : Ej) (R : Kr) : Prop := xnewa 2 q_X10_init_17 ls st z f E R
def q_X10_init_13 (ls : Ls) (st : List Value) (z : Zz) (f : Fm) (E : Ej) (R : Kr) : Prop := xpush (.int (nI 8)) q_X10_init_15 ls st z f E R
def q_X10_init_12 (ls : Ls) (st : List Value) (z : Zz) (f : Fm) (E : Ej) (R : Kr) : Prop := xaload 0 q_X10_init_13 ls st z f E R
def q_X10_init_9 (ls : Ls) (st : List Value) (z : Zz) (f : Fm) (E : Ej) (R : Kr) : Prop := xput 9 0 (.array .int) q_X10_init_12 ls st z f E R
def q_X10_init_7 (ls : Ls) (st : List Value) (z : Zz) (f : Fm) (E : Ej) (R : Kr) : Prop := xnewa 1 q_X10_init_9 ls st z f E R
def q_X10_init_5 (ls : Ls) (st : List Value) (z : Zz) (f : Fm) (E : Ej) (R : Kr) : Prop := xpush (.int (nI 8)) q_X10_init_7 ls st z f E R
def q_X10_init_4 (ls : Ls) (st : List Value) (z : Zz) (f : Fm) (E : Ej) (R : Kr) : Prop := xaload 0 q_X10_init_5 ls st z f E R
def q_X10_init_1 (ls : Ls) (st : List Value) (z : Zz) (f : Fm) (E : Ej) (R : Kr) : Prop := xobj q_X10_init_4 ls st z f E R
def q_X10_init_0 (ls : Ls) (st : List Value) (z : Zz) (f : Fm) (E : Ej) (R : Kr) : Prop := xaload 0 q_X10_init_1 ls st z f E R
set_option maxRecDepth 100000 in
theorem t_X10_init {s0 : State} {D : va_G} {ids : Nat → ClassId} {V : Nat → Nat} {l : Launch} {K : Kr} {E : Ej} (G : GG s0 D ids V) (X : EnX s0 D ids l RX10 cX10_init 1 none "<init>" rm_X10_init K E) : Sd E K 0 q_X10_init_0 := by
  have h40 : Sd E K 40 q_X10_init_40 := sd_vret X (by decide +kernel : decode cX10_init 40 = .ok (.return_, 1))
  have h37 : Sd E K 37 q_X10_init_37 := sd_put X (by decide +kernel : decode cX10_init 37 = .ok (.putfield 29, 3)) ok_X10 (Nat.le_of_ble_eq_true rfl) rfl rfl wd_289 h40
  have h36 : Sd E K 36 q_X10_init_36 := sd_iconst X (by decide +kernel : decode cX10_init 36 = .ok (.iconst 0, 1)) (by decide +kernel) h37
  have h35 : Sd E K 35 q_X10_init_35 := sd_aload_n X (by decide +kernel : decode cX10_init 35 = .ok (.aload_n 0, 1)) rfl h36
  have h32 : Sd E K 32 q_X10_init_32 := sd_put X (by decide +kernel : decode cX10_init 32 = .ok (.putfield 26, 3)) ok_X10 (Nat.le_of_ble_eq_true rfl) rfl rfl wd_287 h35
  have h31 : Sd E K 31 q_X10_init_31 := sd_iconst X (by decide +kernel : decode cX10_init 31 = .ok (.iconst 0, 1)) (by decide +kernel) h32
  have h30 : Sd E K 30 q_X10_init_30 := sd_aload_n X (by decide +kernel : decode cX10_init 30 = .ok (.aload_n 0, 1)) rfl h31
  have h27 : Sd E K 27 q_X10_init_27 := sd_put X (by decide +kernel : decode cX10_init 27 = .ok (.putfield 23, 3)) ok_X10 (Nat.le_of_ble_eq_true rfl) rfl rfl wd_285 h30
  have h26 : Sd E K 26 q_X10_init_26 := sd_iconst X (by decide +kernel : decode cX10_init 26 = .ok (.iconst 0, 1)) (by decide +kernel) h27
  have h25 : Sd E K 25 q_X10_init_25 := sd_aload_n X (by decide +kernel : decode cX10_init 25 = .ok (.aload_n 0, 1)) rfl h26
  have h22 : Sd E K 22 q_X10_init_22 := sd_put X (by decide +kernel : decode cX10_init 22 = .ok (.putfield 19, 3)) ok_X10 (Nat.le_of_ble_eq_true rfl) rfl rfl wd_283 h25
  have h21 : Sd E K 21 q_X10_init_21 := sd_iconst X (by decide +kernel : decode cX10_init 21 = .ok (.iconst 0, 1)) (by decide +kernel) h22
  have h20 : Sd E K 20 q_X10_init_20 := sd_aload_n X (by decide +kernel : decode cX10_init 20 = .ok (.aload_n 0, 1)) rfl h21
  have h17 : Sd E K 17 q_X10_init_17 := sd_putF X (by decide +kernel : decode cX10_init 17 = .ok (.putfield 15, 3)) ok_X10 (Nat.le_of_ble_eq_true rfl) rfl rfl rfl wd_282 h20
  have h15 : Sd E K 15 q_X10_init_15 := sd_newa X (Nat.le_of_ble_eq_true rfl) rfl rfl (by decide) (by decide +kernel : decode cX10_init 15 = .ok (.newarray .boolean, 2)) wd_86 (G.nm2) h17
  have h13 : Sd E K 13 q_X10_init_13 := sd_bipush X (by decide +kernel : decode cX10_init 13 = .ok (.bipush 8, 2)) (by decide +kernel) h15
  have h12 : Sd E K 12 q_X10_init_12 := sd_aload_n X (by decide +kernel : decode cX10_init 12 = .ok (.aload_n 0, 1)) rfl h13
  have h9 : Sd E K 9 q_X10_init_9 := sd_putF X (by decide +kernel : decode cX10_init 9 = .ok (.putfield 9, 3)) ok_X10 (Nat.le_of_ble_eq_true rfl) rfl rfl rfl wd_280 h12
  have h7 : Sd E K 7 q_X10_init_7 := sd_newa X (Nat.le_of_ble_eq_true rfl) rfl rfl (by decide) (by decide +kernel : decode cX10_init 7 = .ok (.newarray .int, 2)) wd_87 (G.nm1) h9
  have h5 : Sd E K 5 q_X10_init_5 := sd_bipush X (by decide +kernel : decode cX10_init 5 = .ok (.bipush 8, 2)) (by decide +kernel) h7
  have h4 : Sd E K 4 q_X10_init_4 := sd_aload_n X (by decide +kernel : decode cX10_init 4 = .ok (.aload_n 0, 1)) rfl h5
  have h1 : Sd E K 1 q_X10_init_1 := sd_obj X (by decide +kernel : decode cX10_init 1 = .ok (.invokespecial 3, 3)) wd_279 (Nat.le_of_ble_eq_true rfl) (Nat.le_of_ble_eq_true rfl) h4
  have h0 : Sd E K 0 q_X10_init_0 := sd_aload_n X (by decide +kernel : decode cX10_init 0 = .ok (.aload_n 0, 1)) rfl h1
  exact h0
set_option maxHeartbeats 4000000 in
set_option maxRecDepth 100000 in
theorem ct_X10_init {s0 : State} {D : va_G} {ids : Nat → ClassId} {V : Nat → Nat} {l : Launch} (G : GG s0 D ids V) : CT s0 D ids l yX10_init cX10_init 1 none rm_X10_init Sp_X10_init := CT.of (by decide +kernel) G.k (by
  rintro as z f K E ⟨a, rfl, rfl, h1, hK⟩ X
  refine ⟨Nat.le_of_ble_eq_true rfl, by simp [Value.category], t_X10_init G X _ _ _ _ ?_⟩
  simp (disch := omega) only [q_X10_init_0, q_X10_init_1, q_X10_init_4, q_X10_init_5, q_X10_init_7, q_X10_init_9, q_X10_init_12, q_X10_init_13, q_X10_init_15, q_X10_init_17, q_X10_init_20, q_X10_init_21, q_X10_init_22, q_X10_init_25, q_X10_init_26, q_X10_init_27, q_X10_init_30, q_X10_init_31, q_X10_init_32, q_X10_init_35, q_X10_init_36, q_X10_init_37, q_X10_init_40, xpush, xiload, xaload, xlload, xfload, xdload, lkill, xistore, xastore, xfstore, xlstore, xdstore, xiinc, xbin, xdiv, xun, xlbin, xi2l, xi2f, xi2d, xlcmp, xfcmp, xdcmp, xfdiv, xddiv, c1, xdup, xpop, xdup_x1, xdup2, xif, xicmp, xtab, xtabL, xget, xput, xald, xast, xalen, xnew, xnewa, c1s, recvOk, xcall, kont, xret, xlret, xfret, xdret, xaret, xvret, xs, xnewq, xastq, xcopy, xcopyF, xobj, xmax, xmin, xdead, xpushq, xmna, ls0, List.map_cons, List.map_nil, List.length_cons, List.length_nil, List.replicate, List.append_nil, List.cons_append, List.nil_append, List.getElem?_cons_zero, List.getElem?_cons_succ, List.getElem?_nil, List.set_cons_zero, List.set_cons_succ, List.take_succ_cons, List.take_zero, List.drop_succ_cons, List.drop_zero, List.reverse_cons, List.reverse_nil, List.sum_cons, List.sum_nil, Value.category, Option.toList_some, Option.toList_none, Nat.reduceAdd, Nat.reduceSub, Nat.reduceLT, Nat.reduceLeDiff, Nat.zero_add, Nat.le_refl, true_and, and_true, Nat.sub_zero, Nat.zero_lt_succ, Nat.zero_le, Nat.not_lt_zero, Nat.reduceEqDiff, Nat.one_ne_zero, nI_toInt, Int.reduceEq, Int.reduceAdd, Int.reduceLT, Int.reduceLE, Int.cast_ofNat_Int, reduceIte, or_false, false_or, eq_self, or_true, true_or, or_self, nI_clamp, vp_in_nI, nI_ltI, nI_leI, nI_eq, nI_add, nI_zero9, nI_nlt0, nI_le0, nI_lt0, arG, va_rf, not_false_eq_true, not_true_eq_false, false_implies, true_implies, implies_true, ne_eq, okv_int, okv_z0, okv_z1, okv_zN, okv_ref, okv_arr, okv_null, vn_z0, vn_z1, vn_zN, nr_int, nr_z, va_up_self, up_fr, rw1_j, rw1_up, h1]
  refine ⟨Nat.le_of_ble_eq_true rfl, Nat.le_of_ble_eq_true rfl, Nat.le_of_ble_eq_true rfl, Nat.le_of_ble_eq_true rfl, ?_⟩
  refine hK _ ⟨va_up_self _ _ _, ?_⟩ (fun q hq => by simp (disch := omega) only [up_fr])
  unfold isI isZ
  simp (disch := omega) only [va_up_self, up_fr]
  exact ⟨rfl, rfl⟩)
abbrev Sp_X7_init (V : Nat → Nat) : Spt := fun as z f K => ∃ (a : Nat), as = [.ref a] ∧ z = a + 1 ∧ f a = some (.inr (6, [.null, .int (nI 0), .null, .int (nI 0), .int (nI 0), .int (nI 0), .int (nI 0)])) ∧ ∀ f', isRr V f' a (a + 1) (fun _ => 0) → f' (a + 1) = some (.inr (0, [.ref (a + 2), .int (nI 0), .int (nI 0), .int (nI 0)])) → f' (a + 2) = some (.inl (0, 16, .inl (rw1 (fun _ => 0)))) → (∀ q, q < a → f' q = f q) → K none (a + 3) f'
def rm_X7_init : Room := { frames := 3, cells := 2, slots := 20, locals := 61 }
def q_X7_init_47 (V : Nat → Nat) (ls : Ls) (st : List Value) (z : Zz) (f : Fm) (E : Ej) (R : Kr) : Prop := xvret ls st z f E R
def q_X7_init_44 (V : Nat → Nat) (ls : Ls) (st : List Value) (z : Zz) (f : Fm) (E : Ej) (R : Kr) : Prop := xput 6 6 .boolean (q_X7_init_47 V) ls st z f E R
def q_X7_init_43 (V : Nat → Nat) (ls : Ls) (st : List Value) (z : Zz) (f : Fm) (E : Ej) (R : Kr) : Prop := xpush (.int (nI 0)) (q_X7_init_44 V) ls st z f E R
def q_X7_init_42 (V : Nat → Nat) (ls : Ls) (st : List Value) (z : Zz) (f : Fm) (E : Ej) (R : Kr) : Prop := xaload 0 (q_X7_init_43 V) ls st z f E R
def q_X7_init_39 (V : Nat → Nat) (ls : Ls) (st : List Value) (z : Zz) (f : Fm) (E : Ej) (R : Kr) : Prop := xput 6 5 .int (q_X7_init_42 V) ls st z f E R
def q_X7_init_38 (V : Nat → Nat) (ls : Ls) (st : List Value) (z : Zz) (f : Fm) (E : Ej) (R : Kr) : Prop := xpush (.int (nI 0)) (q_X7_init_39 V) ls st z f E R
def q_X7_init_37 (V : Nat → Nat) (ls : Ls) (st : List Value) (z : Zz) (f : Fm) (E : Ej) (R : Kr) : Prop := xaload 0 (q_X7_init_38 V) ls st z f E R
def q_X7_init_34 (V : Nat → Nat) (ls : Ls) (st : List Value) (z : Zz) (f : Fm) (E : Ej) (R : Kr) : Prop := xput 6 4 .int (q_X7_init_37 V) ls st z f E R
def q_X7_init_33 (V : Nat → Nat) (ls : Ls) (st : List Value) (z : Zz) (f : Fm) (E : Ej) (R : Kr) : Prop := xpush (.int (nI 0)) (q_X7_init_34 V) ls st z f E R
def q_X7_init_32 (V : Nat → Nat) (ls : Ls) (st : List Value) (z : Zz) (f : Fm) (E : Ej) (R : Kr) : Prop := xaload 0 (q_X7_init_33 V) ls st z f E R
def q_X7_init_29 (V : Nat → Nat) (ls : Ls) (st : List Value) (z : Zz) (f : Fm) (E : Ej) (R : Kr) : Prop := xput 6 3 .int (q_X7_init_32 V) ls st z f E R
def q_X7_init_28 (V : Nat → Nat) (ls : Ls) (st : List Value) (z : Zz) (f : Fm) (E : Ej) (R : Kr) : Prop := xpush (.int (nI 0)) (q_X7_init_29 V) ls st z f E R
def q_X7_init_27 (V : Nat → Nat) (ls : Ls) (st : List Value) (z : Zz) (f : Fm) (E : Ej) (R : Kr) : Prop := xaload 0 (q_X7_init_28 V) ls st z f E R
def q_X7_init_24 (V : Nat → Nat) (ls : Ls) (st : List Value) (z : Zz) (f : Fm) (E : Ej) (R : Kr) : Prop := xput 6 2 (.object "FortHeralds$Kind") (q_X7_init_27 V) ls st z f E R
def q_X7_init_21 (V : Nat → Nat) (ls : Ls) (st : List Value) (z : Zz) (f : Fm) (E : Ej) (R : Kr) : Prop := xpush (.ref (V 10)) (q_X7_init_24 V) ls st z f E R
def q_X7_init_20 (V : Nat → Nat) (ls : Ls) (st : List Value) (z : Zz) (f : Fm) (E : Ej) (R : Kr) : Prop := xaload 0 (q_X7_init_21 V) ls st z f E R
def q_X7_init_17 (V : Nat → Nat) (ls : Ls) (st : List Value) (z : Zz) (f : Fm) (E : Ej) (R : Kr) : Prop := xput 6 1 .int (q_X7_init_20 V) ls st z f E R
def q_X7_init_16 (V : Nat → Nat) (ls : Ls) (st : List Value) (z : Zz) (f : Fm) (E : Ej) (R : Kr) : Prop := xpush (.int (nI 0)) (q_X7_init_17 V) ls st z f E R
def q_X7_init_15 (V : Nat → Nat) (ls : Ls) (st : List Value) (z : Zz) (f : Fm) (E : Ej) (R : Kr) : Prop := xaload 0 (q_X7_init_16 V) ls st z f E R
def q_X7_init_12 (V : Nat → Nat) (ls : Ls) (st : List Value) (z : Zz) (f : Fm) (E : Ej) (R : Kr) : Prop := xput 6 0 (.object "java/lang/StringBuilder") (q_X7_init_15 V) ls st z f E R
def q_X7_init_9 (V : Nat → Nat) (ls : Ls) (st : List Value) (z : Zz) (f : Fm) (E : Ej) (R : Kr) : Prop := xcall 1 1 Sp_J4_init_da8c8 1 16 (q_X7_init_12 V) ls st z f E R
def q_X7_init_8 (V : Nat → Nat) (ls : Ls) (st : List Value) (z : Zz) (f : Fm) (E : Ej) (R : Kr) : Prop := xdup (q_X7_init_9 V) ls st z f E R
def q_X7_init_5 (V : Nat → Nat) (ls : Ls) (st : List Value) (z : Zz) (f : Fm) (E : Ej) (R : Kr) : Prop := xnew 0 4 [.null, .int 0, .int 0, .int 0] (q_X7_init_8 V) ls st z f E R
def q_X7_init_4 (V : Nat → Nat) (ls : Ls) (st : List Value) (z : Zz) (f : Fm) (E : Ej) (R : Kr) : Prop := xaload 0 (q_X7_init_5 V) ls st z f E R
def q_X7_init_1 (V : Nat → Nat) (ls : Ls) (st : List Value) (z : Zz) (f : Fm) (E : Ej) (R : Kr) : Prop := xobj (q_X7_init_4 V) ls st z f E R
def q_X7_init_0 (V : Nat → Nat) (ls : Ls) (st : List Value) (z : Zz) (f : Fm) (E : Ej) (R : Kr) : Prop := xaload 0 (q_X7_init_1 V) ls st z f E R
set_option maxRecDepth 100000 in
theorem t_X7_init {s0 : State} {D : va_G} {ids : Nat → ClassId} {V : Nat → Nat} {l : Launch} {K : Kr} {E : Ej} (G : GG s0 D ids V) (X : EnX s0 D ids l RX7 cX7_init 1 none "<init>" rm_X7_init K E) : Sd E K 0 (q_X7_init_0 V) := by
  have h47 : Sd E K 47 (q_X7_init_47 V) := sd_vret X (by decide +kernel : decode cX7_init 47 = .ok (.return_, 1))
  have h44 : Sd E K 44 (q_X7_init_44 V) := sd_put X (by decide +kernel : decode cX7_init 44 = .ok (.putfield 40, 3)) ok_X7 (Nat.le_of_ble_eq_true rfl) rfl rfl wd_356 h47
  have h43 : Sd E K 43 (q_X7_init_43 V) := sd_iconst X (by decide +kernel : decode cX7_init 43 = .ok (.iconst 0, 1)) (by decide +kernel) h44
  have h42 : Sd E K 42 (q_X7_init_42 V) := sd_aload_n X (by decide +kernel : decode cX7_init 42 = .ok (.aload_n 0, 1)) rfl h43
  have h39 : Sd E K 39 (q_X7_init_39 V) := sd_put X (by decide +kernel : decode cX7_init 39 = .ok (.putfield 37, 3)) ok_X7 (Nat.le_of_ble_eq_true rfl) rfl rfl wd_354 h42
  have h38 : Sd E K 38 (q_X7_init_38 V) := sd_iconst X (by decide +kernel : decode cX7_init 38 = .ok (.iconst 0, 1)) (by decide +kernel) h39
  have h37 : Sd E K 37 (q_X7_init_37 V) := sd_aload_n X (by decide +kernel : decode cX7_init 37 = .ok (.aload_n 0, 1)) rfl h38
  have h34 : Sd E K 34 (q_X7_init_34 V) := sd_put X (by decide +kernel : decode cX7_init 34 = .ok (.putfield 34, 3)) ok_X7 (Nat.le_of_ble_eq_true rfl) rfl rfl wd_352 h37
  have h33 : Sd E K 33 (q_X7_init_33 V) := sd_iconst X (by decide +kernel : decode cX7_init 33 = .ok (.iconst 0, 1)) (by decide +kernel) h34
  have h32 : Sd E K 32 (q_X7_init_32 V) := sd_aload_n X (by decide +kernel : decode cX7_init 32 = .ok (.aload_n 0, 1)) rfl h33
  have h29 : Sd E K 29 (q_X7_init_29 V) := sd_put X (by decide +kernel : decode cX7_init 29 = .ok (.putfield 31, 3)) ok_X7 (Nat.le_of_ble_eq_true rfl) rfl rfl wd_350 h32
  have h28 : Sd E K 28 (q_X7_init_28 V) := sd_iconst X (by decide +kernel : decode cX7_init 28 = .ok (.iconst 0, 1)) (by decide +kernel) h29
  have h27 : Sd E K 27 (q_X7_init_27 V) := sd_aload_n X (by decide +kernel : decode cX7_init 27 = .ok (.aload_n 0, 1)) rfl h28
  have h24 : Sd E K 24 (q_X7_init_24 V) := sd_put X (by decide +kernel : decode cX7_init 24 = .ok (.putfield 28, 3)) ok_X7 (Nat.le_of_ble_eq_true rfl) rfl rfl wd_348 h27
  have h21 : Sd E K 21 (q_X7_init_21 V) := sd_gst X G.z3 (by decide +kernel : decode cX7_init 21 = .ok (.getstatic 22, 3)) wd_342 h24
  have h20 : Sd E K 20 (q_X7_init_20 V) := sd_aload_n X (by decide +kernel : decode cX7_init 20 = .ok (.aload_n 0, 1)) rfl h21
  have h17 : Sd E K 17 (q_X7_init_17 V) := sd_put X (by decide +kernel : decode cX7_init 17 = .ok (.putfield 18, 3)) ok_X7 (Nat.le_of_ble_eq_true rfl) rfl rfl wd_346 h20
  have h16 : Sd E K 16 (q_X7_init_16 V) := sd_iconst X (by decide +kernel : decode cX7_init 16 = .ok (.iconst 0, 1)) (by decide +kernel) h17
  have h15 : Sd E K 15 (q_X7_init_15 V) := sd_aload_n X (by decide +kernel : decode cX7_init 15 = .ok (.aload_n 0, 1)) rfl h16
  have h12 : Sd E K 12 (q_X7_init_12 V) := sd_putF X (by decide +kernel : decode cX7_init 12 = .ok (.putfield 12, 3)) ok_X7 (Nat.le_of_ble_eq_true rfl) rfl rfl rfl wd_344 h15
  have h9 : Sd E K 9 (q_X7_init_9 V) := sd_callI (n := 0) (ci := 0) X (ct_J4_init_da8c8 G) (by decide +kernel : decode cX7_init 9 = .ok (.invokespecial 11, 3)) wd_314 wd_312 wd_313 wd_36 rfl (by decide +kernel) ⟨Nat.le_of_ble_eq_true rfl, Nat.le_of_ble_eq_true rfl⟩ h12
  have h8 : Sd E K 8 (q_X7_init_8 V) := sd_dup X (by decide +kernel : decode cX7_init 8 = .ok (.dup, 1)) h9
  have h5 : Sd E K 5 (q_X7_init_5 V) := sd_new X (by decide +kernel : decode cX7_init 5 = .ok (.new 9, 3)) ok_J4 (by decide) wd_310 wd_311 wd_36 h8
  have h4 : Sd E K 4 (q_X7_init_4 V) := sd_aload_n X (by decide +kernel : decode cX7_init 4 = .ok (.aload_n 0, 1)) rfl h5
  have h1 : Sd E K 1 (q_X7_init_1 V) := sd_obj X (by decide +kernel : decode cX7_init 1 = .ok (.invokespecial 3, 3)) wd_309 (Nat.le_of_ble_eq_true rfl) (Nat.le_of_ble_eq_true rfl) h4
  have h0 : Sd E K 0 (q_X7_init_0 V) := sd_aload_n X (by decide +kernel : decode cX7_init 0 = .ok (.aload_n 0, 1)) rfl h1
  exact h0
set_option maxHeartbeats 4000000 in
set_option maxRecDepth 100000 in
theorem ct_X7_init {s0 : State} {D : va_G} {ids : Nat → ClassId} {V : Nat → Nat} {l : Launch} (G : GG s0 D ids V) : CT s0 D ids l yX7_init cX7_init 1 none rm_X7_init (Sp_X7_init V) := CT.of (by decide +kernel) G.k (by
  rintro as z f K E ⟨a, rfl, rfl, h1, hK⟩ X
  refine ⟨Nat.le_of_ble_eq_true rfl, by simp [Value.category], t_X7_init G X _ _ _ _ ?_⟩
  simp (disch := omega) only [q_X7_init_0, q_X7_init_1, q_X7_init_4, q_X7_init_5, q_X7_init_8, q_X7_init_9, q_X7_init_12, q_X7_init_15, q_X7_init_16, q_X7_init_17, q_X7_init_20, q_X7_init_21, q_X7_init_24, q_X7_init_27, q_X7_init_28, q_X7_init_29, q_X7_init_32, q_X7_init_33, q_X7_init_34, q_X7_init_37, q_X7_init_38, q_X7_init_39, q_X7_init_42, q_X7_init_43, q_X7_init_44, q_X7_init_47, xpush, xiload, xaload, xlload, xfload, xdload, lkill, xistore, xastore, xfstore, xlstore, xdstore, xiinc, xbin, xdiv, xun, xlbin, xi2l, xi2f, xi2d, xlcmp, xfcmp, xdcmp, xfdiv, xddiv, c1, xdup, xpop, xdup_x1, xdup2, xif, xicmp, xtab, xtabL, xget, xput, xald, xast, xalen, xnew, xnewa, c1s, recvOk, xcall, kont, xret, xlret, xfret, xdret, xaret, xvret, xs, xnewq, xastq, xcopy, xcopyF, xobj, xmax, xmin, xdead, xpushq, xmna, ls0, List.map_cons, List.map_nil, List.length_cons, List.length_nil, List.replicate, List.append_nil, List.cons_append, List.nil_append, List.getElem?_cons_zero, List.getElem?_cons_succ, List.getElem?_nil, List.set_cons_zero, List.set_cons_succ, List.take_succ_cons, List.take_zero, List.drop_succ_cons, List.drop_zero, List.reverse_cons, List.reverse_nil, List.sum_cons, List.sum_nil, Value.category, Option.toList_some, Option.toList_none, Nat.reduceAdd, Nat.reduceSub, Nat.reduceLT, Nat.reduceLeDiff, Nat.zero_add, Nat.le_refl, true_and, and_true, Nat.sub_zero, Nat.zero_lt_succ, Nat.zero_le, Nat.not_lt_zero, Nat.reduceEqDiff, Nat.one_ne_zero, nI_toInt, Int.reduceEq, Int.reduceAdd, Int.reduceLT, Int.reduceLE, Int.cast_ofNat_Int, reduceIte, or_false, false_or, eq_self, or_true, true_or, or_self, nI_clamp, vp_in_nI, nI_ltI, nI_leI, nI_eq, nI_add, nI_zero9, nI_nlt0, nI_le0, nI_lt0, arG, va_rf, not_false_eq_true, not_true_eq_false, false_implies, true_implies, implies_true, ne_eq, okv_int, okv_z0, okv_z1, okv_zN, okv_ref, okv_arr, okv_null, vn_z0, vn_z1, vn_zN, nr_int, nr_z, va_up_self, up_fr, rw1_j, rw1_up, h1]
  refine ⟨Nat.le_of_ble_eq_true rfl, Nat.le_of_ble_eq_true rfl, Nat.le_of_ble_eq_true rfl, Nat.le_of_ble_eq_true rfl, ?_⟩
  refine ⟨a + 1, rfl, by omega, va_up_self _ _ _, fun f1 g1 g2 fr1 => ?_⟩
  have b1 := fr1 a (by omega) (by omega)
  simp (disch := omega) only [up_fr, va_up_self, h1] at b1
  simp (disch := omega) only [q_X7_init_0, q_X7_init_1, q_X7_init_4, q_X7_init_5, q_X7_init_8, q_X7_init_9, q_X7_init_12, q_X7_init_15, q_X7_init_16, q_X7_init_17, q_X7_init_20, q_X7_init_21, q_X7_init_24, q_X7_init_27, q_X7_init_28, q_X7_init_29, q_X7_init_32, q_X7_init_33, q_X7_init_34, q_X7_init_37, q_X7_init_38, q_X7_init_39, q_X7_init_42, q_X7_init_43, q_X7_init_44, q_X7_init_47, xpush, xiload, xaload, xlload, xfload, xdload, lkill, xistore, xastore, xfstore, xlstore, xdstore, xiinc, xbin, xdiv, xun, xlbin, xi2l, xi2f, xi2d, xlcmp, xfcmp, xdcmp, xfdiv, xddiv, c1, xdup, xpop, xdup_x1, xdup2, xif, xicmp, xtab, xtabL, xget, xput, xald, xast, xalen, xnew, xnewa, c1s, recvOk, xcall, kont, xret, xlret, xfret, xdret, xaret, xvret, xs, xnewq, xastq, xcopy, xcopyF, xobj, xmax, xmin, xdead, xpushq, xmna, ls0, List.map_cons, List.map_nil, List.length_cons, List.length_nil, List.replicate, List.append_nil, List.cons_append, List.nil_append, List.getElem?_cons_zero, List.getElem?_cons_succ, List.getElem?_nil, List.set_cons_zero, List.set_cons_succ, List.take_succ_cons, List.take_zero, List.drop_succ_cons, List.drop_zero, List.reverse_cons, List.reverse_nil, List.sum_cons, List.sum_nil, Value.category, Option.toList_some, Option.toList_none, Nat.reduceAdd, Nat.reduceSub, Nat.reduceLT, Nat.reduceLeDiff, Nat.zero_add, Nat.le_refl, true_and, and_true, Nat.sub_zero, Nat.zero_lt_succ, Nat.zero_le, Nat.not_lt_zero, Nat.reduceEqDiff, Nat.one_ne_zero, nI_toInt, Int.reduceEq, Int.reduceAdd, Int.reduceLT, Int.reduceLE, Int.cast_ofNat_Int, reduceIte, or_false, false_or, eq_self, or_true, true_or, or_self, nI_clamp, vp_in_nI, nI_ltI, nI_leI, nI_eq, nI_add, nI_zero9, nI_nlt0, nI_le0, nI_lt0, arG, va_rf, not_false_eq_true, not_true_eq_false, false_implies, true_implies, implies_true, ne_eq, okv_int, okv_z0, okv_z1, okv_zN, okv_ref, okv_arr, okv_null, vn_z0, vn_z1, vn_zN, nr_int, nr_z, va_up_self, up_fr, rw1_j, rw1_up, b1]
  skip)
