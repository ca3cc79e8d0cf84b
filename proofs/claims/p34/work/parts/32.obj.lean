/-! the object whole -/
def cm0 : Cm := fun _ _ _ => 0
/-- the rows of the past: the latest first -/
def isPl (rows : Nat → Cm) (fr : Nat) (L : List Cm) : Prop := fr < 9 ∧ L.length ≤ 8 ∧ ∀ i, i < L.length → rows ((fr + 8 - i) % 9) = L.getD i cm0
theorem isPl.note {rows : Nat → Cm} {fr : Nat} {L : List Cm} {M : Cm} (h : isPl rows fr L) : isPl (pup rows fr M) fr L := ⟨h.1, h.2.1, fun i hi => by
  have h1 := h.1
  have h2 := h.2.1
  rw [← h.2.2 i hi]
  exact if_neg (by omega)⟩
theorem isPl.keep {rows : Nat → Cm} {fr : Nat} {L : List Cm} {M : Cm} (h : isPl rows fr L) : isPl (pup rows fr M) ((fr + 1) % 9) ((M :: L).take 8) := by
  have h1 := h.1
  have h2 := h.2.1
  refine ⟨by omega, by simp; omega, fun i hi => ?_⟩
  have hi8 : i < 8 ∧ i < L.length + 1 := by
    simp at hi
    omega
  have e : ((M :: L).take 8).getD i cm0 = (M :: L).getD i cm0 := by
    simp only [List.getD_eq_getElem?_getD]
    rw [List.getElem?_take, if_pos hi8.1]
  rw [e]
  cases i with
  | zero =>
    have e2 : ((fr + 1) % 9 + 8 - 0) % 9 = fr := by omega
    rw [e2]
    exact if_pos rfl
  | succ i =>
    have e2 : ((fr + 1) % 9 + 8 - (i + 1)) % 9 = (fr + 8 - i) % 9 := by omega
    rw [e2]
    exact (if_neg (by omega)).trans (h.2.2 i (by omega))
theorem isPl.back {rows : Nat → Cm} {fr : Nat} {L : List Cm} {M : Cm} (h : isPl rows fr (M :: L)) : rows ((fr + 8) % 9) = M ∧ isPl rows ((fr + 8) % 9) L := by
  have h1 := h.1
  have h2 := h.2.1
  simp at h2
  refine ⟨h.2.2 0 (by simp), by omega, by omega, fun i hi => ?_⟩
  have := h.2.2 (i + 1) (by simp; omega)
  rw [show (fr + 8 - (i + 1)) % 9 = ((fr + 8) % 9 + 8 - i) % 9 by omega] at this
  exact this
theorem isPl.none {rows : Nat → Cm} {fr : Nat} (h : fr < 9) : isPl rows fr [] := ⟨h, by simp, fun i hi => absurd hi (by simp)⟩
theorem take_len {L : List Cm} {M : Cm} (h : L.length ≤ 8) : ((M :: L).take 8).length = min (L.length + 1) 8 := by
  simp
  omega
def oB (f : Fm) (b hs : Nat) : Prop := f b = some (.inr (11, [.ref (b + 1), .ref (b + 2), .ref (b + 95), .ref (b + 150), .ref (b + 205), .ref (b + 702), .ref (b + 706), .ref (b + 709), .ref (b + 710), .ref (b + 712), .int (nI hs)]))
/-- V: constants; b: where; z: the heap's end; M: the country; r d: reason and detail; L: the past; W: the snapshot; T: the text; Ln: the line -/
def isOx (V : Nat → Nat) (f : Fm) (b z : Nat) (M : Cm) (r d : Int32) (L : List Cm) (W : Option Cm) (T Ln : List Nat) (Mm Mt Ms : Cm) (rows : Nat → Cm) (fr : Nat) (rs : Rs) (tv lv hs : Nat) : Prop :=
  oB f b hs ∧ isWk f (b + 1) M Mm r d ∧ isCo f (b + 95) Mt ∧ isCo f (b + 150) Ms ∧ isPa f (b + 205) rows fr L.length ∧ isPl rows fr L ∧ (∃ dd de db, isDs f (b + 702) dd de db) ∧ (∃ h p n s l q, isTr f (b + 706) h p n s l q) ∧ isRr V f (b + 709) (b + 710) rs ∧ (rs 1 < 9 ∧ rs 2 < 8 ∧ rs 3 < 8 ∧ rs 5 < 2) ∧ isSB f (b + 710) tv (b + 714) z T ∧ isSB f (b + 712) lv (b + 714) z Ln ∧ tv ≠ lv ∧ csF V f b ∧ T.length ≤ 60 ∧ (∀ j, T.getD j 0 < 128) ∧ ((hs = 0 ∧ W = none) ∨ (hs = 1 ∧ W = some Ms))
def isO (V : Nat → Nat) (f : Fm) (b z : Nat) (M : Cm) (r d : Int32) (L : List Cm) (W : Option Cm) (T Ln : List Nat) : Prop := ∃ Mm Mt Ms rows fr rs tv lv hs, isOx V f b z M r d L W T Ln Mm Mt Ms rows fr rs tv lv hs
theorem isSB.v {f : Fm} {a v w z : Nat} {L : List Nat} (h : isSB f a v w z L) : (v = a + 1 ∨ w ≤ v) ∧ v < z ∧ w ≤ z ∧ L.length ≤ 70 := by
  obtain ⟨cap, lt, b, i1, i2, i3, i4, i5, i6, i7, i8, i9, i10, i11, i12⟩ := h
  exact ⟨i7, i8, i10, by omega⟩
theorem isPa.fr' {f f' : Fm} {p : Nat} {rows : Nat → Cm} {fr ct : Nat} (h : isPa f p rows fr ct) (hq : ∀ q, p ≤ q → q < p + 497 → f' q = f q) : isPa f' p rows fr ct := h.fr hq
theorem isDs.fr' {f f' : Fm} {a : Nat} {d e b : Nat → Nat} (h : isDs f a d e b) (hq : ∀ q, a ≤ q → q < a + 4 → f' q = f q) : isDs f' a d e b := by
  unfold isDs isI isZ at h ⊢
  rw [hq a (by omega) (by omega), hq (a + 1) (by omega) (by omega), hq (a + 2) (by omega) (by omega), hq (a + 3) (by omega) (by omega)]
  exact h
/-- works and past may change -/
theorem isOx.wp {V : Nat → Nat} {f f' : Fm} {b z : Nat} {M M' : Cm} {r d r' d' : Int32} {L L' : List Cm} {W : Option Cm} {T Ln : List Nat} {Mm Mt Ms Mm' : Cm} {rows rows' : Nat → Cm} {fr fr' : Nat} {rs : Rs} {tv lv hs : Nat} (h : isOx V f b z M r d L W T Ln Mm Mt Ms rows fr rs tv lv hs) (hW : isWk f' (b + 1) M' Mm' r' d') (hP : isPa f' (b + 205) rows' fr' L'.length) (hl : isPl rows' fr' L') (hq : ∀ q, (q < b + 1 ∨ b + 95 ≤ q) → (q < b + 205 ∨ b + 702 ≤ q) → f' q = f q) : isOx V f' b z M' r' d' L' W T Ln Mm' Mt Ms rows' fr' rs tv lv hs := by
  obtain ⟨h1, h2, h3, h4, h5, h6, ⟨dd, de, db, h7⟩, ⟨p1, p2, p3, p4, p5, p6, h8⟩, h9, h10, h11, h12, h13, h14, h15⟩ := h
  have v1 := h11.v
  have v2 := h12.v
  refine ⟨(hq b (by omega) (by omega)).trans h1, hW, h3.fr (fun q _ _ => hq q (by omega) (by omega)), h4.fr (fun q _ _ => hq q (by omega) (by omega)), hP, hl, ⟨dd, de, db, h7.fr' (fun q _ _ => hq q (by omega) (by omega))⟩, ⟨p1, p2, p3, p4, p5, p6, h8.fr (fun q _ _ => hq q (by omega) (by omega))⟩, (hq _ (by omega) (by omega)).trans h9, h10, h11.fr (Nat.le_refl _) (hq _ (by omega) (by omega)) (hq _ (by omega) (by omega)), h12.fr (Nat.le_refl _) (hq _ (by omega) (by omega)) (hq _ (by omega) (by omega)), h13, h14.fr (fun q _ => hq q (by omega) (by omega)), h15⟩
theorem isOx.a {V : Nat → Nat} {f : Fm} {b z : Nat} {M : Cm} {r d : Int32} {L : List Cm} {W : Option Cm} {T Ln : List Nat} {Mm Mt Ms : Cm} {rows : Nat → Cm} {fr : Nat} {rs : Rs} {tv lv hs : Nat} (h : isOx V f b z M r d L W T Ln Mm Mt Ms rows fr rs tv lv hs) (hE : okE M) : oA f b M := by
  obtain ⟨h1, h2, h3, h4, h5, h6, h7, h8, h9, h10, h11, h12, h13, h14, h15, h16, h17⟩ := h
  exact ⟨⟨hs, h1, by omega⟩, h2.2.1, hE⟩
/-! what is kept -/
abbrev Sp_X12_kept : Spt := fun as z f K => ∃ (b hs : Nat) (x : Int32) (rows : Nat → Cm) (fr ct : Nat), as = [.ref b, .int x] ∧ oB f b hs ∧ fr < 9 ∧ ct < 100 ∧ isPa f (b + 205) rows fr ct ∧ (x < 0 → K (some (.int x)) z f) ∧ (0 ≤ x → ∀ f', isPa f' (b + 205) rows ((fr + 1) % 9) (min (ct + 1) 8) → (∀ q, q < b + 205 ∨ b + 702 ≤ q → f' q = f q) → K (some (.int x)) z f')
def rm_X12_kept : Room := { frames := 2, cells := 0, slots := 0, locals := 41 }
def q_X12_kept_12 (ls : Ls) (st : List Value) (z : Zz) (f : Fm) (E : Ej) (R : Kr) : Prop := xret .int ls st z f E R
def q_X12_kept_11 (ls : Ls) (st : List Value) (z : Zz) (f : Fm) (E : Ej) (R : Kr) : Prop := xiload 1 q_X12_kept_12 ls st z f E R
def q_X12_kept_8 (ls : Ls) (st : List Value) (z : Zz) (f : Fm) (E : Ej) (R : Kr) : Prop := xcall 1 6 Sp_X6_keepNoted 0 0 q_X12_kept_11 ls st z f E R
def q_X12_kept_5 (ls : Ls) (st : List Value) (z : Zz) (f : Fm) (E : Ej) (R : Kr) : Prop := xget 11 4 q_X12_kept_8 ls st z f E R
def q_X12_kept_4 (ls : Ls) (st : List Value) (z : Zz) (f : Fm) (E : Ej) (R : Kr) : Prop := xaload 0 q_X12_kept_5 ls st z f E R
def q_X12_kept_1 (ls : Ls) (st : List Value) (z : Zz) (f : Fm) (E : Ej) (R : Kr) : Prop := xif (fun x => x < 0) q_X12_kept_11 q_X12_kept_4 ls st z f E R
def q_X12_kept_0 (ls : Ls) (st : List Value) (z : Zz) (f : Fm) (E : Ej) (R : Kr) : Prop := xiload 1 q_X12_kept_1 ls st z f E R
set_option maxRecDepth 100000 in
theorem t_X12_kept {s0 : State} {D : va_G} {ids : Nat → ClassId} {V : Nat → Nat} {l : Launch} {K : Kr} {E : Ej} (G : GG s0 D ids V) (X : EnX s0 D ids l RX12 cX12_kept 2 (some .int) "kept" rm_X12_kept K E) : Sd E K 0 q_X12_kept_0 := by
  have h12 : Sd E K 12 q_X12_kept_12 := sd_ret X (by decide +kernel : decode cX12_kept 12 = .ok (.ireturn, 1))
  have h11 : Sd E K 11 q_X12_kept_11 := sd_iload_n X (by decide +kernel : decode cX12_kept 11 = .ok (.iload_n 1, 1)) rfl h12
  have h8 : Sd E K 8 q_X12_kept_8 := sd_callV (n := 0) (ci := 5) X (ct_X6_keepNoted G) (by decide +kernel : decode cX12_kept 8 = .ok (.invokevirtual 305, 3)) wd_455 wd_452 wd_453 wd_454 wd_31 (by decide +kernel) (Or.inl ⟨by decide, _, _, rfl⟩) ⟨Nat.le_of_ble_eq_true rfl, Nat.le_of_ble_eq_true rfl⟩ h11
  have h5 : Sd E K 5 q_X12_kept_5 := sd_get X (by decide +kernel : decode cX12_kept 5 = .ok (.getfield 33, 3)) ok_X12 (Nat.le_of_ble_eq_true rfl) wd_378 h8
  have h4 : Sd E K 4 q_X12_kept_4 := sd_aload_n X (by decide +kernel : decode cX12_kept 4 = .ok (.aload_n 0, 1)) rfl h5
  have h1 : Sd E K 1 q_X12_kept_1 := sd_if_lt X (by decide +kernel : decode cX12_kept 1 = .ok (.ifCond .lt 10, 3)) (by decide) h11 h4
  have h0 : Sd E K 0 q_X12_kept_0 := sd_iload_n X (by decide +kernel : decode cX12_kept 0 = .ok (.iload_n 1, 1)) rfl h1
  exact h0
set_option maxHeartbeats 4000000 in
set_option maxRecDepth 100000 in
theorem ct_X12_kept {s0 : State} {D : va_G} {ids : Nat → ClassId} {V : Nat → Nat} {l : Launch} (G : GG s0 D ids V) : CT s0 D ids l yX12_kept cX12_kept 2 (some .int) rm_X12_kept Sp_X12_kept := CT.of (by decide +kernel) G.k (by
  rintro as z f K E ⟨b, hs, x, rows, fr, ct, rfl, h0, hf, hc, hP, hK, hK2⟩ X
  refine ⟨Nat.le_of_ble_eq_true rfl, by simp [Value.category], t_X12_kept G X _ _ _ _ ?_⟩
  unfold oB at h0
  simp (disch := omega) only [q_X12_kept_0, q_X12_kept_1, q_X12_kept_4, q_X12_kept_5, q_X12_kept_8, q_X12_kept_11, q_X12_kept_12, xpush, xiload, xaload, xlload, xfload, xdload, lkill, xistore, xastore, xfstore, xlstore, xdstore, xiinc, xbin, xdiv, xun, xlbin, xi2l, xi2f, xi2d, xlcmp, xfcmp, xdcmp, xfdiv, xddiv, c1, xdup, xpop, xdup_x1, xdup2, xif, xicmp, xtab, xtabL, xget, xput, xald, xast, xalen, xnew, xnewa, c1s, recvOk, xcall, kont, xret, xlret, xfret, xdret, xaret, xvret, xs, xnewq, xastq, xcopy, xcopyF, xobj, xmax, xmin, xdead, xpushq, xmna, ls0, List.map_cons, List.map_nil, List.length_cons, List.length_nil, List.replicate, List.append_nil, List.cons_append, List.nil_append, List.getElem?_cons_zero, List.getElem?_cons_succ, List.getElem?_nil, List.set_cons_zero, List.set_cons_succ, List.take_succ_cons, List.take_zero, List.drop_succ_cons, List.drop_zero, List.reverse_cons, List.reverse_nil, List.sum_cons, List.sum_nil, Value.category, Option.toList_some, Option.toList_none, Nat.reduceAdd, Nat.reduceSub, Nat.reduceLT, Nat.reduceLeDiff, Nat.zero_add, Nat.le_refl, true_and, and_true, Nat.sub_zero, Nat.zero_lt_succ, Nat.zero_le, Nat.not_lt_zero, Nat.reduceEqDiff, Nat.one_ne_zero, nI_toInt, Int.reduceEq, Int.reduceAdd, Int.reduceLT, Int.reduceLE, Int.cast_ofNat_Int, reduceIte, or_false, false_or, eq_self, or_true, true_or, or_self, nI_clamp, vp_in_nI, nI_ltI, nI_leI, nI_eq, nI_add, nI_zero9, nI_nlt0, nI_le0, nI_lt0, arG, va_rf, not_false_eq_true, not_true_eq_false, false_implies, true_implies, implies_true, ne_eq, okv_int, okv_z0, okv_z1, okv_zN, okv_ref, okv_arr, okv_null, vn_z0, vn_z1, vn_zN, nr_int, nr_z, va_up_self, up_fr, rw1_j, rw1_up, h0, hP.1]
  refine ⟨fun q => hK q, fun q => ?_⟩
  refine ⟨_, rows, fr, ct, rfl, hf, hc, hP, fun f1 g1 fr1 => ?_⟩
  simp (disch := omega) only [q_X12_kept_0, q_X12_kept_1, q_X12_kept_4, q_X12_kept_5, q_X12_kept_8, q_X12_kept_11, q_X12_kept_12, xpush, xiload, xaload, xlload, xfload, xdload, lkill, xistore, xastore, xfstore, xlstore, xdstore, xiinc, xbin, xdiv, xun, xlbin, xi2l, xi2f, xi2d, xlcmp, xfcmp, xdcmp, xfdiv, xddiv, c1, xdup, xpop, xdup_x1, xdup2, xif, xicmp, xtab, xtabL, xget, xput, xald, xast, xalen, xnew, xnewa, c1s, recvOk, xcall, kont, xret, xlret, xfret, xdret, xaret, xvret, xs, xnewq, xastq, xcopy, xcopyF, xobj, xmax, xmin, xdead, xpushq, xmna, ls0, List.map_cons, List.map_nil, List.length_cons, List.length_nil, List.replicate, List.append_nil, List.cons_append, List.nil_append, List.getElem?_cons_zero, List.getElem?_cons_succ, List.getElem?_nil, List.set_cons_zero, List.set_cons_succ, List.take_succ_cons, List.take_zero, List.drop_succ_cons, List.drop_zero, List.reverse_cons, List.reverse_nil, List.sum_cons, List.sum_nil, Value.category, Option.toList_some, Option.toList_none, Nat.reduceAdd, Nat.reduceSub, Nat.reduceLT, Nat.reduceLeDiff, Nat.zero_add, Nat.le_refl, true_and, and_true, Nat.sub_zero, Nat.zero_lt_succ, Nat.zero_le, Nat.not_lt_zero, Nat.reduceEqDiff, Nat.one_ne_zero, nI_toInt, Int.reduceEq, Int.reduceAdd, Int.reduceLT, Int.reduceLE, Int.cast_ofNat_Int, reduceIte, or_false, false_or, eq_self, or_true, true_or, or_self, nI_clamp, vp_in_nI, nI_ltI, nI_leI, nI_eq, nI_add, nI_zero9, nI_nlt0, nI_le0, nI_lt0, arG, va_rf, not_false_eq_true, not_true_eq_false, false_implies, true_implies, implies_true, ne_eq, okv_int, okv_z0, okv_z1, okv_zN, okv_ref, okv_arr, okv_null, vn_z0, vn_z1, vn_zN, nr_int, nr_z, va_up_self, up_fr, rw1_j, rw1_up]
  exact hK2 (Int32.not_lt.mp q) f1 g1 (fun q hq => fr1 q (by omega)))
