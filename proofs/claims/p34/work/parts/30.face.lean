/-! the face: what only looks -/
def oF (f : Fm) (b : Nat) : Prop := ∃ hs, f b = some (.inr (11, [.ref (b + 1), .ref (b + 2), .ref (b + 95), .ref (b + 150), .ref (b + 205), .ref (b + 702), .ref (b + 706), .ref (b + 709), .ref (b + 710), .ref (b + 712), .int (nI hs)])) ∧ hs < 2
def oA (f : Fm) (b : Nat) (M : Cm) : Prop := oF f b ∧ isCo f (b + 2) M ∧ okE M
theorem oA.fr {f f' : Fm} {b : Nat} {M : Cm} (h : oA f b M) (hq : ∀ q, q = b ∨ (b + 2 ≤ q ∧ q < b + 57) → f' q = f q) : oA f' b M := by
  obtain ⟨⟨hs, h1, h2⟩, h3, h4⟩ := h
  exact ⟨⟨hs, (hq b (Or.inl rfl)).trans h1, h2⟩, h3.fr (fun q _ _ => hq q (Or.inr (by omega))), h4⟩
def fortOfN (M : Cm) (i w : Nat) : Int32 := if i < M 11 0 2 then (match w with
  | 0 => nI (degN M i)
  | 1 => nI (cntN (fun j => 0 < M 2 i j) 8)
  | 2 => nI (M 0 0 i)
  | _ => nI (cntN (fun k => M 8 0 k = 0 ∧ M 6 0 k = i) (M 11 0 1))) else -11
abbrev Sp_X12_fortOf : Spt := fun as z f K => ∃ (b i w : Nat) (M : Cm), as = [.ref b, .int (nI i), .int (nI w)] ∧ i < 1048576 ∧ w < 4 ∧ oA f b M ∧ K (some (.int (fortOfN M i w))) z f
def rm_X12_fortOf : Room := { frames := 2, cells := 0, slots := 0, locals := 45 }
def q_X12_fortOf_55 (ls : Ls) (st : List Value) (z : Zz) (f : Fm) (E : Ej) (R : Kr) : Prop := xret .int ls st z f E R
def q_X12_fortOf_52 (ls : Ls) (st : List Value) (z : Zz) (f : Fm) (E : Ej) (R : Kr) : Prop := xcall 2 8 Sp_X8_countAt 0 0 q_X12_fortOf_55 ls st z f E R
def q_X12_fortOf_51 (ls : Ls) (st : List Value) (z : Zz) (f : Fm) (E : Ej) (R : Kr) : Prop := xiload 1 q_X12_fortOf_52 ls st z f E R
def q_X12_fortOf_48 (ls : Ls) (st : List Value) (z : Zz) (f : Fm) (E : Ej) (R : Kr) : Prop := xget 1 1 q_X12_fortOf_51 ls st z f E R
def q_X12_fortOf_45 (ls : Ls) (st : List Value) (z : Zz) (f : Fm) (E : Ej) (R : Kr) : Prop := xget 11 1 q_X12_fortOf_48 ls st z f E R
def q_X12_fortOf_44 (ls : Ls) (st : List Value) (z : Zz) (f : Fm) (E : Ej) (R : Kr) : Prop := xaload 0 q_X12_fortOf_45 ls st z f E R
def q_X12_fortOf_67 (ls : Ls) (st : List Value) (z : Zz) (f : Fm) (E : Ej) (R : Kr) : Prop := xret .int ls st z f E R
def q_X12_fortOf_64 (ls : Ls) (st : List Value) (z : Zz) (f : Fm) (E : Ej) (R : Kr) : Prop := xcall 2 9 Sp_X9_countOf 0 0 q_X12_fortOf_67 ls st z f E R
def q_X12_fortOf_63 (ls : Ls) (st : List Value) (z : Zz) (f : Fm) (E : Ej) (R : Kr) : Prop := xiload 1 q_X12_fortOf_64 ls st z f E R
def q_X12_fortOf_60 (ls : Ls) (st : List Value) (z : Zz) (f : Fm) (E : Ej) (R : Kr) : Prop := xget 1 2 q_X12_fortOf_63 ls st z f E R
def q_X12_fortOf_57 (ls : Ls) (st : List Value) (z : Zz) (f : Fm) (E : Ej) (R : Kr) : Prop := xget 11 1 q_X12_fortOf_60 ls st z f E R
def q_X12_fortOf_56 (ls : Ls) (st : List Value) (z : Zz) (f : Fm) (E : Ej) (R : Kr) : Prop := xaload 0 q_X12_fortOf_57 ls st z f E R
def q_X12_fortOf_85 (ls : Ls) (st : List Value) (z : Zz) (f : Fm) (E : Ej) (R : Kr) : Prop := xret .int ls st z f E R
def q_X12_fortOf_84 (ls : Ls) (st : List Value) (z : Zz) (f : Fm) (E : Ej) (R : Kr) : Prop := xpush (.int (nI 0)) q_X12_fortOf_85 ls st z f E R
def q_X12_fortOf_80 (ls : Ls) (st : List Value) (z : Zz) (f : Fm) (E : Ej) (R : Kr) : Prop := xpush (.int (nI 1)) q_X12_fortOf_85 ls st z f E R
def q_X12_fortOf_77 (ls : Ls) (st : List Value) (z : Zz) (f : Fm) (E : Ej) (R : Kr) : Prop := xif (fun x => x = 0) q_X12_fortOf_84 q_X12_fortOf_80 ls st z f E R
def q_X12_fortOf_76 (ls : Ls) (st : List Value) (z : Zz) (f : Fm) (E : Ej) (R : Kr) : Prop := xald 2 2 q_X12_fortOf_77 ls st z f E R
def q_X12_fortOf_75 (ls : Ls) (st : List Value) (z : Zz) (f : Fm) (E : Ej) (R : Kr) : Prop := xiload 1 q_X12_fortOf_76 ls st z f E R
def q_X12_fortOf_72 (ls : Ls) (st : List Value) (z : Zz) (f : Fm) (E : Ej) (R : Kr) : Prop := xget 1 0 q_X12_fortOf_75 ls st z f E R
def q_X12_fortOf_69 (ls : Ls) (st : List Value) (z : Zz) (f : Fm) (E : Ej) (R : Kr) : Prop := xget 11 1 q_X12_fortOf_72 ls st z f E R
def q_X12_fortOf_68 (ls : Ls) (st : List Value) (z : Zz) (f : Fm) (E : Ej) (R : Kr) : Prop := xaload 0 q_X12_fortOf_69 ls st z f E R
def q_X12_fortOf_97 (ls : Ls) (st : List Value) (z : Zz) (f : Fm) (E : Ej) (R : Kr) : Prop := xret .int ls st z f E R
def q_X12_fortOf_94 (ls : Ls) (st : List Value) (z : Zz) (f : Fm) (E : Ej) (R : Kr) : Prop := xcall 2 5 Sp_X5_countUnderWayAt 0 0 q_X12_fortOf_97 ls st z f E R
def q_X12_fortOf_93 (ls : Ls) (st : List Value) (z : Zz) (f : Fm) (E : Ej) (R : Kr) : Prop := xiload 1 q_X12_fortOf_94 ls st z f E R
def q_X12_fortOf_90 (ls : Ls) (st : List Value) (z : Zz) (f : Fm) (E : Ej) (R : Kr) : Prop := xget 1 3 q_X12_fortOf_93 ls st z f E R
def q_X12_fortOf_87 (ls : Ls) (st : List Value) (z : Zz) (f : Fm) (E : Ej) (R : Kr) : Prop := xget 11 1 q_X12_fortOf_90 ls st z f E R
def q_X12_fortOf_86 (ls : Ls) (st : List Value) (z : Zz) (f : Fm) (E : Ej) (R : Kr) : Prop := xaload 0 q_X12_fortOf_87 ls st z f E R
def q_X12_fortOf_100 (ls : Ls) (st : List Value) (z : Zz) (f : Fm) (E : Ej) (R : Kr) : Prop := xret .int ls st z f E R
def q_X12_fortOf_98 (ls : Ls) (st : List Value) (z : Zz) (f : Fm) (E : Ej) (R : Kr) : Prop := xpush (.int (-12)) q_X12_fortOf_100 ls st z f E R
def q_X12_fortOf_15 (ls : Ls) (st : List Value) (z : Zz) (f : Fm) (E : Ej) (R : Kr) : Prop := xtab (0) [q_X12_fortOf_44, q_X12_fortOf_56, q_X12_fortOf_68, q_X12_fortOf_86] q_X12_fortOf_98 ls st z f E R
def q_X12_fortOf_14 (ls : Ls) (st : List Value) (z : Zz) (f : Fm) (E : Ej) (R : Kr) : Prop := xiload 2 q_X12_fortOf_15 ls st z f E R
def q_X12_fortOf_13 (ls : Ls) (st : List Value) (z : Zz) (f : Fm) (E : Ej) (R : Kr) : Prop := xret .int ls st z f E R
def q_X12_fortOf_11 (ls : Ls) (st : List Value) (z : Zz) (f : Fm) (E : Ej) (R : Kr) : Prop := xpush (.int (-11)) q_X12_fortOf_13 ls st z f E R
def q_X12_fortOf_8 (ls : Ls) (st : List Value) (z : Zz) (f : Fm) (E : Ej) (R : Kr) : Prop := xif (fun x => ¬ x = 0) q_X12_fortOf_14 q_X12_fortOf_11 ls st z f E R
def q_X12_fortOf_5 (ls : Ls) (st : List Value) (z : Zz) (f : Fm) (E : Ej) (R : Kr) : Prop := xcall 2 2 Sp_X1_hasFort 0 0 q_X12_fortOf_8 ls st z f E R
def q_X12_fortOf_4 (ls : Ls) (st : List Value) (z : Zz) (f : Fm) (E : Ej) (R : Kr) : Prop := xiload 1 q_X12_fortOf_5 ls st z f E R
def q_X12_fortOf_1 (ls : Ls) (st : List Value) (z : Zz) (f : Fm) (E : Ej) (R : Kr) : Prop := xget 11 1 q_X12_fortOf_4 ls st z f E R
def q_X12_fortOf_0 (ls : Ls) (st : List Value) (z : Zz) (f : Fm) (E : Ej) (R : Kr) : Prop := xaload 0 q_X12_fortOf_1 ls st z f E R
set_option maxRecDepth 100000 in
theorem t_X12_fortOf {s0 : State} {D : va_G} {ids : Nat → ClassId} {V : Nat → Nat} {l : Launch} {K : Kr} {E : Ej} (G : GG s0 D ids V) (X : EnX s0 D ids l RX12 cX12_fortOf 3 (some .int) "fortOf" rm_X12_fortOf K E) : Sd E K 0 q_X12_fortOf_0 := by
  have h55 : Sd E K 55 q_X12_fortOf_55 := sd_ret X (by decide +kernel : decode cX12_fortOf 55 = .ok (.ireturn, 1))
  have h52 : Sd E K 52 q_X12_fortOf_52 := sd_callV (n := 1) (ci := 7) X (ct_X8_countAt G) (by decide +kernel : decode cX12_fortOf 52 = .ok (.invokevirtual 111, 3)) wd_944 wd_941 wd_942 wd_943 wd_27 (by decide +kernel) (Or.inl ⟨by decide, _, _, rfl⟩) ⟨Nat.le_of_ble_eq_true rfl, Nat.le_of_ble_eq_true rfl⟩ h55
  have h51 : Sd E K 51 q_X12_fortOf_51 := sd_iload_n X (by decide +kernel : decode cX12_fortOf 51 = .ok (.iload_n 1, 1)) rfl h52
  have h48 : Sd E K 48 q_X12_fortOf_48 := sd_get X (by decide +kernel : decode cX12_fortOf 48 = .ok (.getfield 107, 3)) ok_X1 (Nat.le_of_ble_eq_true rfl) wd_152 h51
  have h45 : Sd E K 45 q_X12_fortOf_45 := sd_get X (by decide +kernel : decode cX12_fortOf 45 = .ok (.getfield 20, 3)) ok_X12 (Nat.le_of_ble_eq_true rfl) wd_375 h48
  have h44 : Sd E K 44 q_X12_fortOf_44 := sd_aload_n X (by decide +kernel : decode cX12_fortOf 44 = .ok (.aload_n 0, 1)) rfl h45
  have h67 : Sd E K 67 q_X12_fortOf_67 := sd_ret X (by decide +kernel : decode cX12_fortOf 67 = .ok (.ireturn, 1))
  have h64 : Sd E K 64 q_X12_fortOf_64 := sd_callV (n := 1) (ci := 8) X (ct_X9_countOf G) (by decide +kernel : decode cX12_fortOf 64 = .ok (.invokevirtual 120, 3)) wd_910 wd_946 wd_908 wd_909 wd_28 (by decide +kernel) (Or.inl ⟨by decide, _, _, rfl⟩) ⟨Nat.le_of_ble_eq_true rfl, Nat.le_of_ble_eq_true rfl⟩ h67
  have h63 : Sd E K 63 q_X12_fortOf_63 := sd_iload_n X (by decide +kernel : decode cX12_fortOf 63 = .ok (.iload_n 1, 1)) rfl h64
  have h60 : Sd E K 60 q_X12_fortOf_60 := sd_get X (by decide +kernel : decode cX12_fortOf 60 = .ok (.getfield 116, 3)) ok_X1 (Nat.le_of_ble_eq_true rfl) wd_157 h63
  have h57 : Sd E K 57 q_X12_fortOf_57 := sd_get X (by decide +kernel : decode cX12_fortOf 57 = .ok (.getfield 20, 3)) ok_X12 (Nat.le_of_ble_eq_true rfl) wd_375 h60
  have h56 : Sd E K 56 q_X12_fortOf_56 := sd_aload_n X (by decide +kernel : decode cX12_fortOf 56 = .ok (.aload_n 0, 1)) rfl h57
  have h85 : Sd E K 85 q_X12_fortOf_85 := sd_ret X (by decide +kernel : decode cX12_fortOf 85 = .ok (.ireturn, 1))
  have h84 : Sd E K 84 q_X12_fortOf_84 := sd_iconst X (by decide +kernel : decode cX12_fortOf 84 = .ok (.iconst 0, 1)) (by decide +kernel) h85
  have h81 : Sd E K 81 q_X12_fortOf_85 := sd_goto X (by decide +kernel : decode cX12_fortOf 81 = .ok (.goto 4, 3)) (by decide) h85
  have h80 : Sd E K 80 q_X12_fortOf_80 := sd_iconst X (by decide +kernel : decode cX12_fortOf 80 = .ok (.iconst 1, 1)) (by decide +kernel) h81
  have h77 : Sd E K 77 q_X12_fortOf_77 := sd_if_eq X (by decide +kernel : decode cX12_fortOf 77 = .ok (.ifCond .eq 7, 3)) (by decide) h84 h80
  have h76 : Sd E K 76 q_X12_fortOf_76 := sd_zald X (by decide +kernel : decode cX12_fortOf 76 = .ok (.baload, 1)) h77
  have h75 : Sd E K 75 q_X12_fortOf_75 := sd_iload_n X (by decide +kernel : decode cX12_fortOf 75 = .ok (.iload_n 1, 1)) rfl h76
  have h72 : Sd E K 72 q_X12_fortOf_72 := sd_get X (by decide +kernel : decode cX12_fortOf 72 = .ok (.getfield 125, 3)) ok_X1 (Nat.le_of_ble_eq_true rfl) wd_146 h75
  have h69 : Sd E K 69 q_X12_fortOf_69 := sd_get X (by decide +kernel : decode cX12_fortOf 69 = .ok (.getfield 20, 3)) ok_X12 (Nat.le_of_ble_eq_true rfl) wd_375 h72
  have h68 : Sd E K 68 q_X12_fortOf_68 := sd_aload_n X (by decide +kernel : decode cX12_fortOf 68 = .ok (.aload_n 0, 1)) rfl h69
  have h97 : Sd E K 97 q_X12_fortOf_97 := sd_ret X (by decide +kernel : decode cX12_fortOf 97 = .ok (.ireturn, 1))
  have h94 : Sd E K 94 q_X12_fortOf_94 := sd_callV (n := 1) (ci := 4) X (ct_X5_countUnderWayAt G) (by decide +kernel : decode cX12_fortOf 94 = .ok (.invokevirtual 133, 3)) wd_950 wd_947 wd_948 wd_949 wd_29 (by decide +kernel) (Or.inl ⟨by decide, _, _, rfl⟩) ⟨Nat.le_of_ble_eq_true rfl, Nat.le_of_ble_eq_true rfl⟩ h97
  have h93 : Sd E K 93 q_X12_fortOf_93 := sd_iload_n X (by decide +kernel : decode cX12_fortOf 93 = .ok (.iload_n 1, 1)) rfl h94
  have h90 : Sd E K 90 q_X12_fortOf_90 := sd_get X (by decide +kernel : decode cX12_fortOf 90 = .ok (.getfield 129, 3)) ok_X1 (Nat.le_of_ble_eq_true rfl) wd_160 h93
  have h87 : Sd E K 87 q_X12_fortOf_87 := sd_get X (by decide +kernel : decode cX12_fortOf 87 = .ok (.getfield 20, 3)) ok_X12 (Nat.le_of_ble_eq_true rfl) wd_375 h90
  have h86 : Sd E K 86 q_X12_fortOf_86 := sd_aload_n X (by decide +kernel : decode cX12_fortOf 86 = .ok (.aload_n 0, 1)) rfl h87
  have h100 : Sd E K 100 q_X12_fortOf_100 := sd_ret X (by decide +kernel : decode cX12_fortOf 100 = .ok (.ireturn, 1))
  have h98 : Sd E K 98 q_X12_fortOf_98 := sd_bipush X (by decide +kernel : decode cX12_fortOf 98 = .ok (.bipush (-12), 2)) (by decide +kernel) h100
  have h15 : Sd E K 15 q_X12_fortOf_15 := sd_tab (tgts := [44, 56, 68, 86]) X (by decide +kernel : decode cX12_fortOf 15 = .ok (.tableswitch 83 0 3 #[29, 41, 53, 71], 29)) (by first | decide | rfl) rfl (by first | decide +kernel | rfl) (by first | decide | rfl) (fun i k t h1 h2 => by
    match i with
    | 0 => cases h1; cases h2; exact h44
    | 1 => cases h1; cases h2; exact h56
    | 2 => cases h1; cases h2; exact h68
    | 3 => cases h1; cases h2; exact h86
    | n + 4 => simp at h1) h98
  have h14 : Sd E K 14 q_X12_fortOf_14 := sd_iload_n X (by decide +kernel : decode cX12_fortOf 14 = .ok (.iload_n 2, 1)) rfl h15
  have h13 : Sd E K 13 q_X12_fortOf_13 := sd_ret X (by decide +kernel : decode cX12_fortOf 13 = .ok (.ireturn, 1))
  have h11 : Sd E K 11 q_X12_fortOf_11 := sd_bipush X (by decide +kernel : decode cX12_fortOf 11 = .ok (.bipush (-11), 2)) (by decide +kernel) h13
  have h8 : Sd E K 8 q_X12_fortOf_8 := sd_if_ne X (by decide +kernel : decode cX12_fortOf 8 = .ok (.ifCond .ne 6, 3)) (by decide) h14 h11
  have h5 : Sd E K 5 q_X12_fortOf_5 := sd_callV (n := 1) (ci := 1) X (ct_X1_hasFort G) (by decide +kernel : decode cX12_fortOf 5 = .ok (.invokevirtual 103, 3)) wd_474 wd_940 wd_472 wd_473 wd_26 (by decide +kernel) (Or.inl ⟨by decide, _, _, rfl⟩) ⟨Nat.le_of_ble_eq_true rfl, Nat.le_of_ble_eq_true rfl⟩ h8
  have h4 : Sd E K 4 q_X12_fortOf_4 := sd_iload_n X (by decide +kernel : decode cX12_fortOf 4 = .ok (.iload_n 1, 1)) rfl h5
  have h1 : Sd E K 1 q_X12_fortOf_1 := sd_get X (by decide +kernel : decode cX12_fortOf 1 = .ok (.getfield 20, 3)) ok_X12 (Nat.le_of_ble_eq_true rfl) wd_375 h4
  have h0 : Sd E K 0 q_X12_fortOf_0 := sd_aload_n X (by decide +kernel : decode cX12_fortOf 0 = .ok (.aload_n 0, 1)) rfl h1
  exact h0
set_option maxHeartbeats 4000000 in
set_option maxRecDepth 100000 in
theorem ct_X12_fortOf {s0 : State} {D : va_G} {ids : Nat → ClassId} {V : Nat → Nat} {l : Launch} (G : GG s0 D ids V) : CT s0 D ids l yX12_fortOf cX12_fortOf 3 (some .int) rm_X12_fortOf Sp_X12_fortOf := CT.of (by decide +kernel) G.k (by
  rintro as z f K E ⟨b, i, w, M, rfl, hi, hw, ⟨⟨hs, h0, hs2⟩, hC, hE⟩, hK⟩ X
  refine ⟨Nat.le_of_ble_eq_true rfl, by simp [Value.category], t_X12_fortOf G X _ _ _ _ ?_⟩
  have hS := hE.1.1
  have hF := hE.2.1
  have hL := hE.2.2.1
  have h7 := hS.2.2 0 i
  have hM := id hC
  simp (disch := omega) only [q_X12_fortOf_0, q_X12_fortOf_1, q_X12_fortOf_4, q_X12_fortOf_5, q_X12_fortOf_8, q_X12_fortOf_11, q_X12_fortOf_13, q_X12_fortOf_14, q_X12_fortOf_15, q_X12_fortOf_44, q_X12_fortOf_45, q_X12_fortOf_48, q_X12_fortOf_51, q_X12_fortOf_52, q_X12_fortOf_55, q_X12_fortOf_56, q_X12_fortOf_57, q_X12_fortOf_60, q_X12_fortOf_63, q_X12_fortOf_64, q_X12_fortOf_67, q_X12_fortOf_68, q_X12_fortOf_69, q_X12_fortOf_72, q_X12_fortOf_75, q_X12_fortOf_76, q_X12_fortOf_77, q_X12_fortOf_80, q_X12_fortOf_84, q_X12_fortOf_85, q_X12_fortOf_86, q_X12_fortOf_87, q_X12_fortOf_90, q_X12_fortOf_93, q_X12_fortOf_94, q_X12_fortOf_97, q_X12_fortOf_98, q_X12_fortOf_100, xpush, xiload, xaload, xlload, xfload, xdload, lkill, xistore, xastore, xfstore, xlstore, xdstore, xiinc, xbin, xdiv, xun, xlbin, xi2l, xi2f, xi2d, xlcmp, xfcmp, xdcmp, xfdiv, xddiv, c1, xdup, xpop, xdup_x1, xdup2, xif, xicmp, xtab, xtabL, xget, xput, xald, xast, xalen, xnew, xnewa, c1s, recvOk, xcall, kont, xret, xlret, xfret, xdret, xaret, xvret, xs, xnewq, xastq, xcopy, xcopyF, xobj, xmax, xmin, xdead, xpushq, xmna, ls0, List.map_cons, List.map_nil, List.length_cons, List.length_nil, List.replicate, List.append_nil, List.cons_append, List.nil_append, List.getElem?_cons_zero, List.getElem?_cons_succ, List.getElem?_nil, List.set_cons_zero, List.set_cons_succ, List.take_succ_cons, List.take_zero, List.drop_succ_cons, List.drop_zero, List.reverse_cons, List.reverse_nil, List.sum_cons, List.sum_nil, Value.category, Option.toList_some, Option.toList_none, Nat.reduceAdd, Nat.reduceSub, Nat.reduceLT, Nat.reduceLeDiff, Nat.zero_add, Nat.le_refl, true_and, and_true, Nat.sub_zero, Nat.zero_lt_succ, Nat.zero_le, Nat.not_lt_zero, Nat.reduceEqDiff, Nat.one_ne_zero, nI_toInt, Int.reduceEq, Int.reduceAdd, Int.reduceLT, Int.reduceLE, Int.cast_ofNat_Int, reduceIte, or_false, false_or, eq_self, or_true, true_or, or_self, nI_clamp, vp_in_nI, nI_ltI, nI_leI, nI_eq, nI_add, nI_zero9, nI_nlt0, nI_le0, nI_lt0, arG, va_rf, not_false_eq_true, not_true_eq_false, false_implies, true_implies, implies_true, ne_eq, okv_int, okv_z0, okv_z1, okv_zN, okv_ref, okv_arr, okv_null, vn_z0, vn_z1, vn_zN, nr_int, nr_z, va_up_self, up_fr, rw1_j, rw1_up, h0, hC.1]
  refine ⟨_, i, M, rfl, hi, hS, hC, ?_⟩
  unfold fortOfN at hK
  by_cases q : i < M 11 0 2
  · rw [if_pos q] at hK ⊢
    have hi8 : i < 8 := by omega
    simp (disch := omega) only [q_X12_fortOf_0, q_X12_fortOf_1, q_X12_fortOf_4, q_X12_fortOf_5, q_X12_fortOf_8, q_X12_fortOf_11, q_X12_fortOf_13, q_X12_fortOf_14, q_X12_fortOf_15, q_X12_fortOf_44, q_X12_fortOf_45, q_X12_fortOf_48, q_X12_fortOf_51, q_X12_fortOf_52, q_X12_fortOf_55, q_X12_fortOf_56, q_X12_fortOf_57, q_X12_fortOf_60, q_X12_fortOf_63, q_X12_fortOf_64, q_X12_fortOf_67, q_X12_fortOf_68, q_X12_fortOf_69, q_X12_fortOf_72, q_X12_fortOf_75, q_X12_fortOf_76, q_X12_fortOf_77, q_X12_fortOf_80, q_X12_fortOf_84, q_X12_fortOf_85, q_X12_fortOf_86, q_X12_fortOf_87, q_X12_fortOf_90, q_X12_fortOf_93, q_X12_fortOf_94, q_X12_fortOf_97, q_X12_fortOf_98, q_X12_fortOf_100, xpush, xiload, xaload, xlload, xfload, xdload, lkill, xistore, xastore, xfstore, xlstore, xdstore, xiinc, xbin, xdiv, xun, xlbin, xi2l, xi2f, xi2d, xlcmp, xfcmp, xdcmp, xfdiv, xddiv, c1, xdup, xpop, xdup_x1, xdup2, xif, xicmp, xtab, xtabL, xget, xput, xald, xast, xalen, xnew, xnewa, c1s, recvOk, xcall, kont, xret, xlret, xfret, xdret, xaret, xvret, xs, xnewq, xastq, xcopy, xcopyF, xobj, xmax, xmin, xdead, xpushq, xmna, ls0, List.map_cons, List.map_nil, List.length_cons, List.length_nil, List.replicate, List.append_nil, List.cons_append, List.nil_append, List.getElem?_cons_zero, List.getElem?_cons_succ, List.getElem?_nil, List.set_cons_zero, List.set_cons_succ, List.take_succ_cons, List.take_zero, List.drop_succ_cons, List.drop_zero, List.reverse_cons, List.reverse_nil, List.sum_cons, List.sum_nil, Value.category, Option.toList_some, Option.toList_none, Nat.reduceAdd, Nat.reduceSub, Nat.reduceLT, Nat.reduceLeDiff, Nat.zero_add, Nat.le_refl, true_and, and_true, Nat.sub_zero, Nat.zero_lt_succ, Nat.zero_le, Nat.not_lt_zero, Nat.reduceEqDiff, Nat.one_ne_zero, nI_toInt, Int.reduceEq, Int.reduceAdd, Int.reduceLT, Int.reduceLE, Int.cast_ofNat_Int, reduceIte, or_false, false_or, eq_self, or_true, true_or, or_self, nI_clamp, vp_in_nI, nI_ltI, nI_leI, nI_eq, nI_add, nI_zero9, nI_nlt0, nI_le0, nI_lt0, arG, va_rf, not_false_eq_true, not_true_eq_false, false_implies, true_implies, implies_true, ne_eq, okv_int, okv_z0, okv_z1, okv_zN, okv_ref, okv_arr, okv_null, vn_z0, vn_z1, vn_zN, nr_int, nr_z, va_up_self, up_fr, rw1_j, rw1_up, h0, hC.1, hC.2.1, hC.2.2.1.1, hC.2.2.2.1.1, hC.2.2.2.2.1, nI_toInt]
    refine ⟨⟨fun e => ?_, fun e => ?_, fun e => ?_, fun e => ?_⟩, fun e => absurd e (by omega)⟩
    · obtain rfl : w = 0 := by omega
      refine ⟨_, i, M, rfl, hi8, hS, hC.2.2.1, ?_⟩
      simp (disch := omega) only [q_X12_fortOf_0, q_X12_fortOf_1, q_X12_fortOf_4, q_X12_fortOf_5, q_X12_fortOf_8, q_X12_fortOf_11, q_X12_fortOf_13, q_X12_fortOf_14, q_X12_fortOf_15, q_X12_fortOf_44, q_X12_fortOf_45, q_X12_fortOf_48, q_X12_fortOf_51, q_X12_fortOf_52, q_X12_fortOf_55, q_X12_fortOf_56, q_X12_fortOf_57, q_X12_fortOf_60, q_X12_fortOf_63, q_X12_fortOf_64, q_X12_fortOf_67, q_X12_fortOf_68, q_X12_fortOf_69, q_X12_fortOf_72, q_X12_fortOf_75, q_X12_fortOf_76, q_X12_fortOf_77, q_X12_fortOf_80, q_X12_fortOf_84, q_X12_fortOf_85, q_X12_fortOf_86, q_X12_fortOf_87, q_X12_fortOf_90, q_X12_fortOf_93, q_X12_fortOf_94, q_X12_fortOf_97, q_X12_fortOf_98, q_X12_fortOf_100, xpush, xiload, xaload, xlload, xfload, xdload, lkill, xistore, xastore, xfstore, xlstore, xdstore, xiinc, xbin, xdiv, xun, xlbin, xi2l, xi2f, xi2d, xlcmp, xfcmp, xdcmp, xfdiv, xddiv, c1, xdup, xpop, xdup_x1, xdup2, xif, xicmp, xtab, xtabL, xget, xput, xald, xast, xalen, xnew, xnewa, c1s, recvOk, xcall, kont, xret, xlret, xfret, xdret, xaret, xvret, xs, xnewq, xastq, xcopy, xcopyF, xobj, xmax, xmin, xdead, xpushq, xmna, ls0, List.map_cons, List.map_nil, List.length_cons, List.length_nil, List.replicate, List.append_nil, List.cons_append, List.nil_append, List.getElem?_cons_zero, List.getElem?_cons_succ, List.getElem?_nil, List.set_cons_zero, List.set_cons_succ, List.take_succ_cons, List.take_zero, List.drop_succ_cons, List.drop_zero, List.reverse_cons, List.reverse_nil, List.sum_cons, List.sum_nil, Value.category, Option.toList_some, Option.toList_none, Nat.reduceAdd, Nat.reduceSub, Nat.reduceLT, Nat.reduceLeDiff, Nat.zero_add, Nat.le_refl, true_and, and_true, Nat.sub_zero, Nat.zero_lt_succ, Nat.zero_le, Nat.not_lt_zero, Nat.reduceEqDiff, Nat.one_ne_zero, nI_toInt, Int.reduceEq, Int.reduceAdd, Int.reduceLT, Int.reduceLE, Int.cast_ofNat_Int, reduceIte, or_false, false_or, eq_self, or_true, true_or, or_self, nI_clamp, vp_in_nI, nI_ltI, nI_leI, nI_eq, nI_add, nI_zero9, nI_nlt0, nI_le0, nI_lt0, arG, va_rf, not_false_eq_true, not_true_eq_false, false_implies, true_implies, implies_true, ne_eq, okv_int, okv_z0, okv_z1, okv_zN, okv_ref, okv_arr, okv_null, vn_z0, vn_z1, vn_zN, nr_int, nr_z, va_up_self, up_fr, rw1_j, rw1_up]
      exact hK
    · obtain rfl : w = 1 := by omega
      refine ⟨_, i, M, rfl, hi8, hS, hC.2.2.2.1, ?_⟩
      simp (disch := omega) only [q_X12_fortOf_0, q_X12_fortOf_1, q_X12_fortOf_4, q_X12_fortOf_5, q_X12_fortOf_8, q_X12_fortOf_11, q_X12_fortOf_13, q_X12_fortOf_14, q_X12_fortOf_15, q_X12_fortOf_44, q_X12_fortOf_45, q_X12_fortOf_48, q_X12_fortOf_51, q_X12_fortOf_52, q_X12_fortOf_55, q_X12_fortOf_56, q_X12_fortOf_57, q_X12_fortOf_60, q_X12_fortOf_63, q_X12_fortOf_64, q_X12_fortOf_67, q_X12_fortOf_68, q_X12_fortOf_69, q_X12_fortOf_72, q_X12_fortOf_75, q_X12_fortOf_76, q_X12_fortOf_77, q_X12_fortOf_80, q_X12_fortOf_84, q_X12_fortOf_85, q_X12_fortOf_86, q_X12_fortOf_87, q_X12_fortOf_90, q_X12_fortOf_93, q_X12_fortOf_94, q_X12_fortOf_97, q_X12_fortOf_98, q_X12_fortOf_100, xpush, xiload, xaload, xlload, xfload, xdload, lkill, xistore, xastore, xfstore, xlstore, xdstore, xiinc, xbin, xdiv, xun, xlbin, xi2l, xi2f, xi2d, xlcmp, xfcmp, xdcmp, xfdiv, xddiv, c1, xdup, xpop, xdup_x1, xdup2, xif, xicmp, xtab, xtabL, xget, xput, xald, xast, xalen, xnew, xnewa, c1s, recvOk, xcall, kont, xret, xlret, xfret, xdret, xaret, xvret, xs, xnewq, xastq, xcopy, xcopyF, xobj, xmax, xmin, xdead, xpushq, xmna, ls0, List.map_cons, List.map_nil, List.length_cons, List.length_nil, List.replicate, List.append_nil, List.cons_append, List.nil_append, List.getElem?_cons_zero, List.getElem?_cons_succ, List.getElem?_nil, List.set_cons_zero, List.set_cons_succ, List.take_succ_cons, List.take_zero, List.drop_succ_cons, List.drop_zero, List.reverse_cons, List.reverse_nil, List.sum_cons, List.sum_nil, Value.category, Option.toList_some, Option.toList_none, Nat.reduceAdd, Nat.reduceSub, Nat.reduceLT, Nat.reduceLeDiff, Nat.zero_add, Nat.le_refl, true_and, and_true, Nat.sub_zero, Nat.zero_lt_succ, Nat.zero_le, Nat.not_lt_zero, Nat.reduceEqDiff, Nat.one_ne_zero, nI_toInt, Int.reduceEq, Int.reduceAdd, Int.reduceLT, Int.reduceLE, Int.cast_ofNat_Int, reduceIte, or_false, false_or, eq_self, or_true, true_or, or_self, nI_clamp, vp_in_nI, nI_ltI, nI_leI, nI_eq, nI_add, nI_zero9, nI_nlt0, nI_le0, nI_lt0, arG, va_rf, not_false_eq_true, not_true_eq_false, false_implies, true_implies, implies_true, ne_eq, okv_int, okv_z0, okv_z1, okv_zN, okv_ref, okv_arr, okv_null, vn_z0, vn_z1, vn_zN, nr_int, nr_z, va_up_self, up_fr, rw1_j, rw1_up]
      exact hK
    · obtain rfl : w = 2 := by omega
      refine ⟨fun e2 => ?_, fun e2 => ?_⟩
      · rw [← e2]
        exact hK
      · rw [show (1 : Nat) = M 0 0 i by omega]
        exact hK
    · obtain rfl : w = 3 := by omega
      refine ⟨_, i, M, rfl, hi, hS, hL, hC.2.2.2.2, ?_⟩
      simp (disch := omega) only [q_X12_fortOf_0, q_X12_fortOf_1, q_X12_fortOf_4, q_X12_fortOf_5, q_X12_fortOf_8, q_X12_fortOf_11, q_X12_fortOf_13, q_X12_fortOf_14, q_X12_fortOf_15, q_X12_fortOf_44, q_X12_fortOf_45, q_X12_fortOf_48, q_X12_fortOf_51, q_X12_fortOf_52, q_X12_fortOf_55, q_X12_fortOf_56, q_X12_fortOf_57, q_X12_fortOf_60, q_X12_fortOf_63, q_X12_fortOf_64, q_X12_fortOf_67, q_X12_fortOf_68, q_X12_fortOf_69, q_X12_fortOf_72, q_X12_fortOf_75, q_X12_fortOf_76, q_X12_fortOf_77, q_X12_fortOf_80, q_X12_fortOf_84, q_X12_fortOf_85, q_X12_fortOf_86, q_X12_fortOf_87, q_X12_fortOf_90, q_X12_fortOf_93, q_X12_fortOf_94, q_X12_fortOf_97, q_X12_fortOf_98, q_X12_fortOf_100, xpush, xiload, xaload, xlload, xfload, xdload, lkill, xistore, xastore, xfstore, xlstore, xdstore, xiinc, xbin, xdiv, xun, xlbin, xi2l, xi2f, xi2d, xlcmp, xfcmp, xdcmp, xfdiv, xddiv, c1, xdup, xpop, xdup_x1, xdup2, xif, xicmp, xtab, xtabL, xget, xput, xald, xast, xalen, xnew, xnewa, c1s, recvOk, xcall, kont, xret, xlret, xfret, xdret, xaret, xvret, xs, xnewq, xastq, xcopy, xcopyF, xobj, xmax, xmin, xdead, xpushq, xmna, ls0, List.map_cons, List.map_nil, List.length_cons, List.length_nil, List.replicate, List.append_nil, List.cons_append, List.nil_append, List.getElem?_cons_zero, List.getElem?_cons_succ, List.getElem?_nil, List.set_cons_zero, List.set_cons_succ, List.take_succ_cons, List.take_zero, List.drop_succ_cons, List.drop_zero, List.reverse_cons, List.reverse_nil, List.sum_cons, List.sum_nil, Value.category, Option.toList_some, Option.toList_none, Nat.reduceAdd, Nat.reduceSub, Nat.reduceLT, Nat.reduceLeDiff, Nat.zero_add, Nat.le_refl, true_and, and_true, Nat.sub_zero, Nat.zero_lt_succ, Nat.zero_le, Nat.not_lt_zero, Nat.reduceEqDiff, Nat.one_ne_zero, nI_toInt, Int.reduceEq, Int.reduceAdd, Int.reduceLT, Int.reduceLE, Int.cast_ofNat_Int, reduceIte, or_false, false_or, eq_self, or_true, true_or, or_self, nI_clamp, vp_in_nI, nI_ltI, nI_leI, nI_eq, nI_add, nI_zero9, nI_nlt0, nI_le0, nI_lt0, arG, va_rf, not_false_eq_true, not_true_eq_false, false_implies, true_implies, implies_true, ne_eq, okv_int, okv_z0, okv_z1, okv_zN, okv_ref, okv_arr, okv_null, vn_z0, vn_z1, vn_zN, nr_int, nr_z, va_up_self, up_fr, rw1_j, rw1_up]
      exact hK
  · rw [if_neg q] at hK ⊢
    simp (disch := omega) only [q_X12_fortOf_0, q_X12_fortOf_1, q_X12_fortOf_4, q_X12_fortOf_5, q_X12_fortOf_8, q_X12_fortOf_11, q_X12_fortOf_13, q_X12_fortOf_14, q_X12_fortOf_15, q_X12_fortOf_44, q_X12_fortOf_45, q_X12_fortOf_48, q_X12_fortOf_51, q_X12_fortOf_52, q_X12_fortOf_55, q_X12_fortOf_56, q_X12_fortOf_57, q_X12_fortOf_60, q_X12_fortOf_63, q_X12_fortOf_64, q_X12_fortOf_67, q_X12_fortOf_68, q_X12_fortOf_69, q_X12_fortOf_72, q_X12_fortOf_75, q_X12_fortOf_76, q_X12_fortOf_77, q_X12_fortOf_80, q_X12_fortOf_84, q_X12_fortOf_85, q_X12_fortOf_86, q_X12_fortOf_87, q_X12_fortOf_90, q_X12_fortOf_93, q_X12_fortOf_94, q_X12_fortOf_97, q_X12_fortOf_98, q_X12_fortOf_100, xpush, xiload, xaload, xlload, xfload, xdload, lkill, xistore, xastore, xfstore, xlstore, xdstore, xiinc, xbin, xdiv, xun, xlbin, xi2l, xi2f, xi2d, xlcmp, xfcmp, xdcmp, xfdiv, xddiv, c1, xdup, xpop, xdup_x1, xdup2, xif, xicmp, xtab, xtabL, xget, xput, xald, xast, xalen, xnew, xnewa, c1s, recvOk, xcall, kont, xret, xlret, xfret, xdret, xaret, xvret, xs, xnewq, xastq, xcopy, xcopyF, xobj, xmax, xmin, xdead, xpushq, xmna, ls0, List.map_cons, List.map_nil, List.length_cons, List.length_nil, List.replicate, List.append_nil, List.cons_append, List.nil_append, List.getElem?_cons_zero, List.getElem?_cons_succ, List.getElem?_nil, List.set_cons_zero, List.set_cons_succ, List.take_succ_cons, List.take_zero, List.drop_succ_cons, List.drop_zero, List.reverse_cons, List.reverse_nil, List.sum_cons, List.sum_nil, Value.category, Option.toList_some, Option.toList_none, Nat.reduceAdd, Nat.reduceSub, Nat.reduceLT, Nat.reduceLeDiff, Nat.zero_add, Nat.le_refl, true_and, and_true, Nat.sub_zero, Nat.zero_lt_succ, Nat.zero_le, Nat.not_lt_zero, Nat.reduceEqDiff, Nat.one_ne_zero, nI_toInt, Int.reduceEq, Int.reduceAdd, Int.reduceLT, Int.reduceLE, Int.cast_ofNat_Int, reduceIte, or_false, false_or, eq_self, or_true, true_or, or_self, nI_clamp, vp_in_nI, nI_ltI, nI_leI, nI_eq, nI_add, nI_zero9, nI_nlt0, nI_le0, nI_lt0, arG, va_rf, not_false_eq_true, not_true_eq_false, false_implies, true_implies, implies_true, ne_eq, okv_int, okv_z0, okv_z1, okv_zN, okv_ref, okv_arr, okv_null, vn_z0, vn_z1, vn_zN, nr_int, nr_z, va_up_self, up_fr, rw1_j, rw1_up]
    exact hK)
abbrev Sp_X12_leagues : Spt := fun as z f K => ∃ (b i j : Nat) (M : Cm), as = [.ref b, .int (nI i), .int (nI j)] ∧ i < 1048576 ∧ j < 1048576 ∧ oA f b M ∧ K (some (.int (if i < M 11 0 2 ∧ j < M 11 0 2 then (if 0 < M 1 i j then nI (M 1 i j) else -15) else -11))) z f
def rm_X12_leagues : Room := { frames := 2, cells := 0, slots := 0, locals := 43 }
def q_X12_leagues_47 (ls : Ls) (st : List Value) (z : Zz) (f : Fm) (E : Ej) (R : Kr) : Prop := xret .int ls st z f E R
def q_X12_leagues_45 (ls : Ls) (st : List Value) (z : Zz) (f : Fm) (E : Ej) (R : Kr) : Prop := xpush (.int (-15)) q_X12_leagues_47 ls st z f E R
def q_X12_leagues_39 (ls : Ls) (st : List Value) (z : Zz) (f : Fm) (E : Ej) (R : Kr) : Prop := xcall 3 8 Sp_X8_between 0 0 q_X12_leagues_47 ls st z f E R
def q_X12_leagues_38 (ls : Ls) (st : List Value) (z : Zz) (f : Fm) (E : Ej) (R : Kr) : Prop := xiload 2 q_X12_leagues_39 ls st z f E R
def q_X12_leagues_37 (ls : Ls) (st : List Value) (z : Zz) (f : Fm) (E : Ej) (R : Kr) : Prop := xiload 1 q_X12_leagues_38 ls st z f E R
def q_X12_leagues_34 (ls : Ls) (st : List Value) (z : Zz) (f : Fm) (E : Ej) (R : Kr) : Prop := xget 1 1 q_X12_leagues_37 ls st z f E R
def q_X12_leagues_31 (ls : Ls) (st : List Value) (z : Zz) (f : Fm) (E : Ej) (R : Kr) : Prop := xget 11 1 q_X12_leagues_34 ls st z f E R
def q_X12_leagues_30 (ls : Ls) (st : List Value) (z : Zz) (f : Fm) (E : Ej) (R : Kr) : Prop := xaload 0 q_X12_leagues_31 ls st z f E R
def q_X12_leagues_27 (ls : Ls) (st : List Value) (z : Zz) (f : Fm) (E : Ej) (R : Kr) : Prop := xif (fun x => x = 0) q_X12_leagues_45 q_X12_leagues_30 ls st z f E R
def q_X12_leagues_24 (ls : Ls) (st : List Value) (z : Zz) (f : Fm) (E : Ej) (R : Kr) : Prop := xcall 3 8 Sp_X8_areJoined 0 0 q_X12_leagues_27 ls st z f E R
def q_X12_leagues_23 (ls : Ls) (st : List Value) (z : Zz) (f : Fm) (E : Ej) (R : Kr) : Prop := xiload 2 q_X12_leagues_24 ls st z f E R
def q_X12_leagues_22 (ls : Ls) (st : List Value) (z : Zz) (f : Fm) (E : Ej) (R : Kr) : Prop := xiload 1 q_X12_leagues_23 ls st z f E R
def q_X12_leagues_19 (ls : Ls) (st : List Value) (z : Zz) (f : Fm) (E : Ej) (R : Kr) : Prop := xget 1 1 q_X12_leagues_22 ls st z f E R
def q_X12_leagues_16 (ls : Ls) (st : List Value) (z : Zz) (f : Fm) (E : Ej) (R : Kr) : Prop := xget 11 1 q_X12_leagues_19 ls st z f E R
def q_X12_leagues_15 (ls : Ls) (st : List Value) (z : Zz) (f : Fm) (E : Ej) (R : Kr) : Prop := xaload 0 q_X12_leagues_16 ls st z f E R
def q_X12_leagues_14 (ls : Ls) (st : List Value) (z : Zz) (f : Fm) (E : Ej) (R : Kr) : Prop := xret .int ls st z f E R
def q_X12_leagues_12 (ls : Ls) (st : List Value) (z : Zz) (f : Fm) (E : Ej) (R : Kr) : Prop := xpush (.int (-11)) q_X12_leagues_14 ls st z f E R
def q_X12_leagues_9 (ls : Ls) (st : List Value) (z : Zz) (f : Fm) (E : Ej) (R : Kr) : Prop := xif (fun x => ¬ x = 0) q_X12_leagues_15 q_X12_leagues_12 ls st z f E R
def q_X12_leagues_6 (ls : Ls) (st : List Value) (z : Zz) (f : Fm) (E : Ej) (R : Kr) : Prop := xcall 3 2 Sp_X1_hasForts 0 0 q_X12_leagues_9 ls st z f E R
def q_X12_leagues_5 (ls : Ls) (st : List Value) (z : Zz) (f : Fm) (E : Ej) (R : Kr) : Prop := xiload 2 q_X12_leagues_6 ls st z f E R
def q_X12_leagues_4 (ls : Ls) (st : List Value) (z : Zz) (f : Fm) (E : Ej) (R : Kr) : Prop := xiload 1 q_X12_leagues_5 ls st z f E R
def q_X12_leagues_1 (ls : Ls) (st : List Value) (z : Zz) (f : Fm) (E : Ej) (R : Kr) : Prop := xget 11 1 q_X12_leagues_4 ls st z f E R
def q_X12_leagues_0 (ls : Ls) (st : List Value) (z : Zz) (f : Fm) (E : Ej) (R : Kr) : Prop := xaload 0 q_X12_leagues_1 ls st z f E R
set_option maxRecDepth 100000 in
theorem t_X12_leagues {s0 : State} {D : va_G} {ids : Nat → ClassId} {V : Nat → Nat} {l : Launch} {K : Kr} {E : Ej} (G : GG s0 D ids V) (X : EnX s0 D ids l RX12 cX12_leagues 3 (some .int) "leagues" rm_X12_leagues K E) : Sd E K 0 q_X12_leagues_0 := by
  have h47 : Sd E K 47 q_X12_leagues_47 := sd_ret X (by decide +kernel : decode cX12_leagues 47 = .ok (.ireturn, 1))
  have h45 : Sd E K 45 q_X12_leagues_45 := sd_bipush X (by decide +kernel : decode cX12_leagues 45 = .ok (.bipush (-15), 2)) (by decide +kernel) h47
  have h42 : Sd E K 42 q_X12_leagues_47 := sd_goto X (by decide +kernel : decode cX12_leagues 42 = .ok (.goto 5, 3)) (by decide) h47
  have h39 : Sd E K 39 q_X12_leagues_39 := sd_callV (n := 2) (ci := 7) X (ct_X8_between G) (by decide +kernel : decode cX12_leagues 39 = .ok (.invokevirtual 145, 3)) wd_482 wd_926 wd_480 wd_481 wd_27 (by decide +kernel) (Or.inl ⟨by decide, _, _, rfl⟩) ⟨Nat.le_of_ble_eq_true rfl, Nat.le_of_ble_eq_true rfl⟩ h42
  have h38 : Sd E K 38 q_X12_leagues_38 := sd_iload_n X (by decide +kernel : decode cX12_leagues 38 = .ok (.iload_n 2, 1)) rfl h39
  have h37 : Sd E K 37 q_X12_leagues_37 := sd_iload_n X (by decide +kernel : decode cX12_leagues 37 = .ok (.iload_n 1, 1)) rfl h38
  have h34 : Sd E K 34 q_X12_leagues_34 := sd_get X (by decide +kernel : decode cX12_leagues 34 = .ok (.getfield 107, 3)) ok_X1 (Nat.le_of_ble_eq_true rfl) wd_152 h37
  have h31 : Sd E K 31 q_X12_leagues_31 := sd_get X (by decide +kernel : decode cX12_leagues 31 = .ok (.getfield 20, 3)) ok_X12 (Nat.le_of_ble_eq_true rfl) wd_375 h34
  have h30 : Sd E K 30 q_X12_leagues_30 := sd_aload_n X (by decide +kernel : decode cX12_leagues 30 = .ok (.aload_n 0, 1)) rfl h31
  have h27 : Sd E K 27 q_X12_leagues_27 := sd_if_eq X (by decide +kernel : decode cX12_leagues 27 = .ok (.ifCond .eq 18, 3)) (by decide) h45 h30
  have h24 : Sd E K 24 q_X12_leagues_24 := sd_callV (n := 2) (ci := 7) X (ct_X8_areJoined G) (by decide +kernel : decode cX12_leagues 24 = .ok (.invokevirtual 142, 3)) wd_478 wd_925 wd_476 wd_477 wd_27 (by decide +kernel) (Or.inl ⟨by decide, _, _, rfl⟩) ⟨Nat.le_of_ble_eq_true rfl, Nat.le_of_ble_eq_true rfl⟩ h27
  have h23 : Sd E K 23 q_X12_leagues_23 := sd_iload_n X (by decide +kernel : decode cX12_leagues 23 = .ok (.iload_n 2, 1)) rfl h24
  have h22 : Sd E K 22 q_X12_leagues_22 := sd_iload_n X (by decide +kernel : decode cX12_leagues 22 = .ok (.iload_n 1, 1)) rfl h23
  have h19 : Sd E K 19 q_X12_leagues_19 := sd_get X (by decide +kernel : decode cX12_leagues 19 = .ok (.getfield 107, 3)) ok_X1 (Nat.le_of_ble_eq_true rfl) wd_152 h22
  have h16 : Sd E K 16 q_X12_leagues_16 := sd_get X (by decide +kernel : decode cX12_leagues 16 = .ok (.getfield 20, 3)) ok_X12 (Nat.le_of_ble_eq_true rfl) wd_375 h19
  have h15 : Sd E K 15 q_X12_leagues_15 := sd_aload_n X (by decide +kernel : decode cX12_leagues 15 = .ok (.aload_n 0, 1)) rfl h16
  have h14 : Sd E K 14 q_X12_leagues_14 := sd_ret X (by decide +kernel : decode cX12_leagues 14 = .ok (.ireturn, 1))
  have h12 : Sd E K 12 q_X12_leagues_12 := sd_bipush X (by decide +kernel : decode cX12_leagues 12 = .ok (.bipush (-11), 2)) (by decide +kernel) h14
  have h9 : Sd E K 9 q_X12_leagues_9 := sd_if_ne X (by decide +kernel : decode cX12_leagues 9 = .ok (.ifCond .ne 6, 3)) (by decide) h15 h12
  have h6 : Sd E K 6 q_X12_leagues_6 := sd_callV (n := 2) (ci := 1) X (ct_X1_hasForts G) (by decide +kernel : decode cX12_leagues 6 = .ok (.invokevirtual 138, 3)) wd_470 wd_924 wd_468 wd_469 wd_26 (by decide +kernel) (Or.inl ⟨by decide, _, _, rfl⟩) ⟨Nat.le_of_ble_eq_true rfl, Nat.le_of_ble_eq_true rfl⟩ h9
  have h5 : Sd E K 5 q_X12_leagues_5 := sd_iload_n X (by decide +kernel : decode cX12_leagues 5 = .ok (.iload_n 2, 1)) rfl h6
  have h4 : Sd E K 4 q_X12_leagues_4 := sd_iload_n X (by decide +kernel : decode cX12_leagues 4 = .ok (.iload_n 1, 1)) rfl h5
  have h1 : Sd E K 1 q_X12_leagues_1 := sd_get X (by decide +kernel : decode cX12_leagues 1 = .ok (.getfield 20, 3)) ok_X12 (Nat.le_of_ble_eq_true rfl) wd_375 h4
  have h0 : Sd E K 0 q_X12_leagues_0 := sd_aload_n X (by decide +kernel : decode cX12_leagues 0 = .ok (.aload_n 0, 1)) rfl h1
  exact h0
set_option maxHeartbeats 4000000 in
set_option maxRecDepth 100000 in
theorem ct_X12_leagues {s0 : State} {D : va_G} {ids : Nat → ClassId} {V : Nat → Nat} {l : Launch} (G : GG s0 D ids V) : CT s0 D ids l yX12_leagues cX12_leagues 3 (some .int) rm_X12_leagues Sp_X12_leagues := CT.of (by decide +kernel) G.k (by
  rintro as z f K E ⟨b, i, j, M, rfl, hi, hj, ⟨⟨hs, h0, hs2⟩, hC, hE⟩, hK⟩ X
  refine ⟨Nat.le_of_ble_eq_true rfl, by simp [Value.category], t_X12_leagues G X _ _ _ _ ?_⟩
  have hS := hE.1.1
  have hF := hE.2.1
  simp (disch := omega) only [q_X12_leagues_0, q_X12_leagues_1, q_X12_leagues_4, q_X12_leagues_5, q_X12_leagues_6, q_X12_leagues_9, q_X12_leagues_12, q_X12_leagues_14, q_X12_leagues_15, q_X12_leagues_16, q_X12_leagues_19, q_X12_leagues_22, q_X12_leagues_23, q_X12_leagues_24, q_X12_leagues_27, q_X12_leagues_30, q_X12_leagues_31, q_X12_leagues_34, q_X12_leagues_37, q_X12_leagues_38, q_X12_leagues_39, q_X12_leagues_45, q_X12_leagues_47, xpush, xiload, xaload, xlload, xfload, xdload, lkill, xistore, xastore, xfstore, xlstore, xdstore, xiinc, xbin, xdiv, xun, xlbin, xi2l, xi2f, xi2d, xlcmp, xfcmp, xdcmp, xfdiv, xddiv, c1, xdup, xpop, xdup_x1, xdup2, xif, xicmp, xtab, xtabL, xget, xput, xald, xast, xalen, xnew, xnewa, c1s, recvOk, xcall, kont, xret, xlret, xfret, xdret, xaret, xvret, xs, xnewq, xastq, xcopy, xcopyF, xobj, xmax, xmin, xdead, xpushq, xmna, ls0, List.map_cons, List.map_nil, List.length_cons, List.length_nil, List.replicate, List.append_nil, List.cons_append, List.nil_append, List.getElem?_cons_zero, List.getElem?_cons_succ, List.getElem?_nil, List.set_cons_zero, List.set_cons_succ, List.take_succ_cons, List.take_zero, List.drop_succ_cons, List.drop_zero, List.reverse_cons, List.reverse_nil, List.sum_cons, List.sum_nil, Value.category, Option.toList_some, Option.toList_none, Nat.reduceAdd, Nat.reduceSub, Nat.reduceLT, Nat.reduceLeDiff, Nat.zero_add, Nat.le_refl, true_and, and_true, Nat.sub_zero, Nat.zero_lt_succ, Nat.zero_le, Nat.not_lt_zero, Nat.reduceEqDiff, Nat.one_ne_zero, nI_toInt, Int.reduceEq, Int.reduceAdd, Int.reduceLT, Int.reduceLE, Int.cast_ofNat_Int, reduceIte, or_false, false_or, eq_self, or_true, true_or, or_self, nI_clamp, vp_in_nI, nI_ltI, nI_leI, nI_eq, nI_add, nI_zero9, nI_nlt0, nI_le0, nI_lt0, arG, va_rf, not_false_eq_true, not_true_eq_false, false_implies, true_implies, implies_true, ne_eq, okv_int, okv_z0, okv_z1, okv_zN, okv_ref, okv_arr, okv_null, vn_z0, vn_z1, vn_zN, nr_int, nr_z, va_up_self, up_fr, rw1_j, rw1_up, h0, hC.1]
  refine ⟨_, i, j, M, rfl, hi, hj, hS, hC, ?_⟩
  by_cases q : i < M 11 0 2 ∧ j < M 11 0 2
  · rw [if_pos q] at hK ⊢
    have h1 := hS.1 1 i j (by omega)
    simp (disch := omega) only [q_X12_leagues_0, q_X12_leagues_1, q_X12_leagues_4, q_X12_leagues_5, q_X12_leagues_6, q_X12_leagues_9, q_X12_leagues_12, q_X12_leagues_14, q_X12_leagues_15, q_X12_leagues_16, q_X12_leagues_19, q_X12_leagues_22, q_X12_leagues_23, q_X12_leagues_24, q_X12_leagues_27, q_X12_leagues_30, q_X12_leagues_31, q_X12_leagues_34, q_X12_leagues_37, q_X12_leagues_38, q_X12_leagues_39, q_X12_leagues_45, q_X12_leagues_47, xpush, xiload, xaload, xlload, xfload, xdload, lkill, xistore, xastore, xfstore, xlstore, xdstore, xiinc, xbin, xdiv, xun, xlbin, xi2l, xi2f, xi2d, xlcmp, xfcmp, xdcmp, xfdiv, xddiv, c1, xdup, xpop, xdup_x1, xdup2, xif, xicmp, xtab, xtabL, xget, xput, xald, xast, xalen, xnew, xnewa, c1s, recvOk, xcall, kont, xret, xlret, xfret, xdret, xaret, xvret, xs, xnewq, xastq, xcopy, xcopyF, xobj, xmax, xmin, xdead, xpushq, xmna, ls0, List.map_cons, List.map_nil, List.length_cons, List.length_nil, List.replicate, List.append_nil, List.cons_append, List.nil_append, List.getElem?_cons_zero, List.getElem?_cons_succ, List.getElem?_nil, List.set_cons_zero, List.set_cons_succ, List.take_succ_cons, List.take_zero, List.drop_succ_cons, List.drop_zero, List.reverse_cons, List.reverse_nil, List.sum_cons, List.sum_nil, Value.category, Option.toList_some, Option.toList_none, Nat.reduceAdd, Nat.reduceSub, Nat.reduceLT, Nat.reduceLeDiff, Nat.zero_add, Nat.le_refl, true_and, and_true, Nat.sub_zero, Nat.zero_lt_succ, Nat.zero_le, Nat.not_lt_zero, Nat.reduceEqDiff, Nat.one_ne_zero, nI_toInt, Int.reduceEq, Int.reduceAdd, Int.reduceLT, Int.reduceLE, Int.cast_ofNat_Int, reduceIte, or_false, false_or, eq_self, or_true, true_or, or_self, nI_clamp, vp_in_nI, nI_ltI, nI_leI, nI_eq, nI_add, nI_zero9, nI_nlt0, nI_le0, nI_lt0, arG, va_rf, not_false_eq_true, not_true_eq_false, false_implies, true_implies, implies_true, ne_eq, okv_int, okv_z0, okv_z1, okv_zN, okv_ref, okv_arr, okv_null, vn_z0, vn_z1, vn_zN, nr_int, nr_z, va_up_self, up_fr, rw1_j, rw1_up, h0, hC.1, hC.2.2.1.1]
    refine ⟨_, i, j, M, rfl, by omega, by omega, h1, hC.2.2.1, ?_⟩
    by_cases q2 : 0 < M 1 i j
    · rw [if_pos q2] at hK ⊢
      simp (disch := omega) only [q_X12_leagues_0, q_X12_leagues_1, q_X12_leagues_4, q_X12_leagues_5, q_X12_leagues_6, q_X12_leagues_9, q_X12_leagues_12, q_X12_leagues_14, q_X12_leagues_15, q_X12_leagues_16, q_X12_leagues_19, q_X12_leagues_22, q_X12_leagues_23, q_X12_leagues_24, q_X12_leagues_27, q_X12_leagues_30, q_X12_leagues_31, q_X12_leagues_34, q_X12_leagues_37, q_X12_leagues_38, q_X12_leagues_39, q_X12_leagues_45, q_X12_leagues_47, xpush, xiload, xaload, xlload, xfload, xdload, lkill, xistore, xastore, xfstore, xlstore, xdstore, xiinc, xbin, xdiv, xun, xlbin, xi2l, xi2f, xi2d, xlcmp, xfcmp, xdcmp, xfdiv, xddiv, c1, xdup, xpop, xdup_x1, xdup2, xif, xicmp, xtab, xtabL, xget, xput, xald, xast, xalen, xnew, xnewa, c1s, recvOk, xcall, kont, xret, xlret, xfret, xdret, xaret, xvret, xs, xnewq, xastq, xcopy, xcopyF, xobj, xmax, xmin, xdead, xpushq, xmna, ls0, List.map_cons, List.map_nil, List.length_cons, List.length_nil, List.replicate, List.append_nil, List.cons_append, List.nil_append, List.getElem?_cons_zero, List.getElem?_cons_succ, List.getElem?_nil, List.set_cons_zero, List.set_cons_succ, List.take_succ_cons, List.take_zero, List.drop_succ_cons, List.drop_zero, List.reverse_cons, List.reverse_nil, List.sum_cons, List.sum_nil, Value.category, Option.toList_some, Option.toList_none, Nat.reduceAdd, Nat.reduceSub, Nat.reduceLT, Nat.reduceLeDiff, Nat.zero_add, Nat.le_refl, true_and, and_true, Nat.sub_zero, Nat.zero_lt_succ, Nat.zero_le, Nat.not_lt_zero, Nat.reduceEqDiff, Nat.one_ne_zero, nI_toInt, Int.reduceEq, Int.reduceAdd, Int.reduceLT, Int.reduceLE, Int.cast_ofNat_Int, reduceIte, or_false, false_or, eq_self, or_true, true_or, or_self, nI_clamp, vp_in_nI, nI_ltI, nI_leI, nI_eq, nI_add, nI_zero9, nI_nlt0, nI_le0, nI_lt0, arG, va_rf, not_false_eq_true, not_true_eq_false, false_implies, true_implies, implies_true, ne_eq, okv_int, okv_z0, okv_z1, okv_zN, okv_ref, okv_arr, okv_null, vn_z0, vn_z1, vn_zN, nr_int, nr_z, va_up_self, up_fr, rw1_j, rw1_up, h0, hC.1, hC.2.2.1.1]
      refine ⟨_, i, j, M, rfl, by omega, by omega, hC.2.2.1, ?_⟩
      simp (disch := omega) only [q_X12_leagues_0, q_X12_leagues_1, q_X12_leagues_4, q_X12_leagues_5, q_X12_leagues_6, q_X12_leagues_9, q_X12_leagues_12, q_X12_leagues_14, q_X12_leagues_15, q_X12_leagues_16, q_X12_leagues_19, q_X12_leagues_22, q_X12_leagues_23, q_X12_leagues_24, q_X12_leagues_27, q_X12_leagues_30, q_X12_leagues_31, q_X12_leagues_34, q_X12_leagues_37, q_X12_leagues_38, q_X12_leagues_39, q_X12_leagues_45, q_X12_leagues_47, xpush, xiload, xaload, xlload, xfload, xdload, lkill, xistore, xastore, xfstore, xlstore, xdstore, xiinc, xbin, xdiv, xun, xlbin, xi2l, xi2f, xi2d, xlcmp, xfcmp, xdcmp, xfdiv, xddiv, c1, xdup, xpop, xdup_x1, xdup2, xif, xicmp, xtab, xtabL, xget, xput, xald, xast, xalen, xnew, xnewa, c1s, recvOk, xcall, kont, xret, xlret, xfret, xdret, xaret, xvret, xs, xnewq, xastq, xcopy, xcopyF, xobj, xmax, xmin, xdead, xpushq, xmna, ls0, List.map_cons, List.map_nil, List.length_cons, List.length_nil, List.replicate, List.append_nil, List.cons_append, List.nil_append, List.getElem?_cons_zero, List.getElem?_cons_succ, List.getElem?_nil, List.set_cons_zero, List.set_cons_succ, List.take_succ_cons, List.take_zero, List.drop_succ_cons, List.drop_zero, List.reverse_cons, List.reverse_nil, List.sum_cons, List.sum_nil, Value.category, Option.toList_some, Option.toList_none, Nat.reduceAdd, Nat.reduceSub, Nat.reduceLT, Nat.reduceLeDiff, Nat.zero_add, Nat.le_refl, true_and, and_true, Nat.sub_zero, Nat.zero_lt_succ, Nat.zero_le, Nat.not_lt_zero, Nat.reduceEqDiff, Nat.one_ne_zero, nI_toInt, Int.reduceEq, Int.reduceAdd, Int.reduceLT, Int.reduceLE, Int.cast_ofNat_Int, reduceIte, or_false, false_or, eq_self, or_true, true_or, or_self, nI_clamp, vp_in_nI, nI_ltI, nI_leI, nI_eq, nI_add, nI_zero9, nI_nlt0, nI_le0, nI_lt0, arG, va_rf, not_false_eq_true, not_true_eq_false, false_implies, true_implies, implies_true, ne_eq, okv_int, okv_z0, okv_z1, okv_zN, okv_ref, okv_arr, okv_null, vn_z0, vn_z1, vn_zN, nr_int, nr_z, va_up_self, up_fr, rw1_j, rw1_up]
      exact hK
    · rw [if_neg q2] at hK ⊢
      simp (disch := omega) only [q_X12_leagues_0, q_X12_leagues_1, q_X12_leagues_4, q_X12_leagues_5, q_X12_leagues_6, q_X12_leagues_9, q_X12_leagues_12, q_X12_leagues_14, q_X12_leagues_15, q_X12_leagues_16, q_X12_leagues_19, q_X12_leagues_22, q_X12_leagues_23, q_X12_leagues_24, q_X12_leagues_27, q_X12_leagues_30, q_X12_leagues_31, q_X12_leagues_34, q_X12_leagues_37, q_X12_leagues_38, q_X12_leagues_39, q_X12_leagues_45, q_X12_leagues_47, xpush, xiload, xaload, xlload, xfload, xdload, lkill, xistore, xastore, xfstore, xlstore, xdstore, xiinc, xbin, xdiv, xun, xlbin, xi2l, xi2f, xi2d, xlcmp, xfcmp, xdcmp, xfdiv, xddiv, c1, xdup, xpop, xdup_x1, xdup2, xif, xicmp, xtab, xtabL, xget, xput, xald, xast, xalen, xnew, xnewa, c1s, recvOk, xcall, kont, xret, xlret, xfret, xdret, xaret, xvret, xs, xnewq, xastq, xcopy, xcopyF, xobj, xmax, xmin, xdead, xpushq, xmna, ls0, List.map_cons, List.map_nil, List.length_cons, List.length_nil, List.replicate, List.append_nil, List.cons_append, List.nil_append, List.getElem?_cons_zero, List.getElem?_cons_succ, List.getElem?_nil, List.set_cons_zero, List.set_cons_succ, List.take_succ_cons, List.take_zero, List.drop_succ_cons, List.drop_zero, List.reverse_cons, List.reverse_nil, List.sum_cons, List.sum_nil, Value.category, Option.toList_some, Option.toList_none, Nat.reduceAdd, Nat.reduceSub, Nat.reduceLT, Nat.reduceLeDiff, Nat.zero_add, Nat.le_refl, true_and, and_true, Nat.sub_zero, Nat.zero_lt_succ, Nat.zero_le, Nat.not_lt_zero, Nat.reduceEqDiff, Nat.one_ne_zero, nI_toInt, Int.reduceEq, Int.reduceAdd, Int.reduceLT, Int.reduceLE, Int.cast_ofNat_Int, reduceIte, or_false, false_or, eq_self, or_true, true_or, or_self, nI_clamp, vp_in_nI, nI_ltI, nI_leI, nI_eq, nI_add, nI_zero9, nI_nlt0, nI_le0, nI_lt0, arG, va_rf, not_false_eq_true, not_true_eq_false, false_implies, true_implies, implies_true, ne_eq, okv_int, okv_z0, okv_z1, okv_zN, okv_ref, okv_arr, okv_null, vn_z0, vn_z1, vn_zN, nr_int, nr_z, va_up_self, up_fr, rw1_j, rw1_up]
      exact hK
  · rw [if_neg q] at hK ⊢
    simp (disch := omega) only [q_X12_leagues_0, q_X12_leagues_1, q_X12_leagues_4, q_X12_leagues_5, q_X12_leagues_6, q_X12_leagues_9, q_X12_leagues_12, q_X12_leagues_14, q_X12_leagues_15, q_X12_leagues_16, q_X12_leagues_19, q_X12_leagues_22, q_X12_leagues_23, q_X12_leagues_24, q_X12_leagues_27, q_X12_leagues_30, q_X12_leagues_31, q_X12_leagues_34, q_X12_leagues_37, q_X12_leagues_38, q_X12_leagues_39, q_X12_leagues_45, q_X12_leagues_47, xpush, xiload, xaload, xlload, xfload, xdload, lkill, xistore, xastore, xfstore, xlstore, xdstore, xiinc, xbin, xdiv, xun, xlbin, xi2l, xi2f, xi2d, xlcmp, xfcmp, xdcmp, xfdiv, xddiv, c1, xdup, xpop, xdup_x1, xdup2, xif, xicmp, xtab, xtabL, xget, xput, xald, xast, xalen, xnew, xnewa, c1s, recvOk, xcall, kont, xret, xlret, xfret, xdret, xaret, xvret, xs, xnewq, xastq, xcopy, xcopyF, xobj, xmax, xmin, xdead, xpushq, xmna, ls0, List.map_cons, List.map_nil, List.length_cons, List.length_nil, List.replicate, List.append_nil, List.cons_append, List.nil_append, List.getElem?_cons_zero, List.getElem?_cons_succ, List.getElem?_nil, List.set_cons_zero, List.set_cons_succ, List.take_succ_cons, List.take_zero, List.drop_succ_cons, List.drop_zero, List.reverse_cons, List.reverse_nil, List.sum_cons, List.sum_nil, Value.category, Option.toList_some, Option.toList_none, Nat.reduceAdd, Nat.reduceSub, Nat.reduceLT, Nat.reduceLeDiff, Nat.zero_add, Nat.le_refl, true_and, and_true, Nat.sub_zero, Nat.zero_lt_succ, Nat.zero_le, Nat.not_lt_zero, Nat.reduceEqDiff, Nat.one_ne_zero, nI_toInt, Int.reduceEq, Int.reduceAdd, Int.reduceLT, Int.reduceLE, Int.cast_ofNat_Int, reduceIte, or_false, false_or, eq_self, or_true, true_or, or_self, nI_clamp, vp_in_nI, nI_ltI, nI_leI, nI_eq, nI_add, nI_zero9, nI_nlt0, nI_le0, nI_lt0, arG, va_rf, not_false_eq_true, not_true_eq_false, false_implies, true_implies, implies_true, ne_eq, okv_int, okv_z0, okv_z1, okv_zN, okv_ref, okv_arr, okv_null, vn_z0, vn_z1, vn_zN, nr_int, nr_z, va_up_self, up_fr, rw1_j, rw1_up]
    exact hK)
abbrev Sp_X12_known : Spt := fun as z f K => ∃ (b i j w : Nat) (M : Cm), as = [.ref b, .int (nI i), .int (nI j), .int (nI w)] ∧ i < 1048576 ∧ j < 1048576 ∧ w < 4 ∧ oA f b M ∧ K (some (.int (if i < M 11 0 2 ∧ j < M 11 0 2 then (if 0 < M 2 i j then nI (M (2 + w) i j) else -15) else -11))) z f
def rm_X12_known : Room := { frames := 2, cells := 0, slots := 0, locals := 43 }
def q_X12_known_26 (ls : Ls) (st : List Value) (z : Zz) (f : Fm) (E : Ej) (R : Kr) : Prop := xret .int ls st z f E R
def q_X12_known_24 (ls : Ls) (st : List Value) (z : Zz) (f : Fm) (E : Ej) (R : Kr) : Prop := xpush (.int (-12)) q_X12_known_26 ls st z f E R
def q_X12_known_58 (ls : Ls) (st : List Value) (z : Zz) (f : Fm) (E : Ej) (R : Kr) : Prop := xret .int ls st z f E R
def q_X12_known_55 (ls : Ls) (st : List Value) (z : Zz) (f : Fm) (E : Ej) (R : Kr) : Prop := xcall 4 9 Sp_X9_numberOf 0 0 q_X12_known_58 ls st z f E R
def q_X12_known_54 (ls : Ls) (st : List Value) (z : Zz) (f : Fm) (E : Ej) (R : Kr) : Prop := xiload 3 q_X12_known_55 ls st z f E R
def q_X12_known_53 (ls : Ls) (st : List Value) (z : Zz) (f : Fm) (E : Ej) (R : Kr) : Prop := xiload 2 q_X12_known_54 ls st z f E R
def q_X12_known_52 (ls : Ls) (st : List Value) (z : Zz) (f : Fm) (E : Ej) (R : Kr) : Prop := xiload 1 q_X12_known_53 ls st z f E R
def q_X12_known_49 (ls : Ls) (st : List Value) (z : Zz) (f : Fm) (E : Ej) (R : Kr) : Prop := xget 1 2 q_X12_known_52 ls st z f E R
def q_X12_known_46 (ls : Ls) (st : List Value) (z : Zz) (f : Fm) (E : Ej) (R : Kr) : Prop := xget 11 1 q_X12_known_49 ls st z f E R
def q_X12_known_45 (ls : Ls) (st : List Value) (z : Zz) (f : Fm) (E : Ej) (R : Kr) : Prop := xaload 0 q_X12_known_46 ls st z f E R
def q_X12_known_44 (ls : Ls) (st : List Value) (z : Zz) (f : Fm) (E : Ej) (R : Kr) : Prop := xret .int ls st z f E R
def q_X12_known_42 (ls : Ls) (st : List Value) (z : Zz) (f : Fm) (E : Ej) (R : Kr) : Prop := xpush (.int (-15)) q_X12_known_44 ls st z f E R
def q_X12_known_39 (ls : Ls) (st : List Value) (z : Zz) (f : Fm) (E : Ej) (R : Kr) : Prop := xif (fun x => ¬ x = 0) q_X12_known_45 q_X12_known_42 ls st z f E R
def q_X12_known_36 (ls : Ls) (st : List Value) (z : Zz) (f : Fm) (E : Ej) (R : Kr) : Prop := xcall 3 9 Sp_X9_isKnown 0 0 q_X12_known_39 ls st z f E R
def q_X12_known_35 (ls : Ls) (st : List Value) (z : Zz) (f : Fm) (E : Ej) (R : Kr) : Prop := xiload 2 q_X12_known_36 ls st z f E R
def q_X12_known_34 (ls : Ls) (st : List Value) (z : Zz) (f : Fm) (E : Ej) (R : Kr) : Prop := xiload 1 q_X12_known_35 ls st z f E R
def q_X12_known_31 (ls : Ls) (st : List Value) (z : Zz) (f : Fm) (E : Ej) (R : Kr) : Prop := xget 1 2 q_X12_known_34 ls st z f E R
def q_X12_known_28 (ls : Ls) (st : List Value) (z : Zz) (f : Fm) (E : Ej) (R : Kr) : Prop := xget 11 1 q_X12_known_31 ls st z f E R
def q_X12_known_27 (ls : Ls) (st : List Value) (z : Zz) (f : Fm) (E : Ej) (R : Kr) : Prop := xaload 0 q_X12_known_28 ls st z f E R
def q_X12_known_21 (ls : Ls) (st : List Value) (z : Zz) (f : Fm) (E : Ej) (R : Kr) : Prop := xicmp (fun x y => x ≤ y) q_X12_known_27 q_X12_known_24 ls st z f E R
def q_X12_known_20 (ls : Ls) (st : List Value) (z : Zz) (f : Fm) (E : Ej) (R : Kr) : Prop := xpush (.int (nI 3)) q_X12_known_21 ls st z f E R
def q_X12_known_19 (ls : Ls) (st : List Value) (z : Zz) (f : Fm) (E : Ej) (R : Kr) : Prop := xiload 3 q_X12_known_20 ls st z f E R
def q_X12_known_16 (ls : Ls) (st : List Value) (z : Zz) (f : Fm) (E : Ej) (R : Kr) : Prop := xif (fun x => x < 0) q_X12_known_24 q_X12_known_19 ls st z f E R
def q_X12_known_15 (ls : Ls) (st : List Value) (z : Zz) (f : Fm) (E : Ej) (R : Kr) : Prop := xiload 3 q_X12_known_16 ls st z f E R
def q_X12_known_14 (ls : Ls) (st : List Value) (z : Zz) (f : Fm) (E : Ej) (R : Kr) : Prop := xret .int ls st z f E R
def q_X12_known_12 (ls : Ls) (st : List Value) (z : Zz) (f : Fm) (E : Ej) (R : Kr) : Prop := xpush (.int (-11)) q_X12_known_14 ls st z f E R
def q_X12_known_9 (ls : Ls) (st : List Value) (z : Zz) (f : Fm) (E : Ej) (R : Kr) : Prop := xif (fun x => ¬ x = 0) q_X12_known_15 q_X12_known_12 ls st z f E R
def q_X12_known_6 (ls : Ls) (st : List Value) (z : Zz) (f : Fm) (E : Ej) (R : Kr) : Prop := xcall 3 2 Sp_X1_hasForts 0 0 q_X12_known_9 ls st z f E R
def q_X12_known_5 (ls : Ls) (st : List Value) (z : Zz) (f : Fm) (E : Ej) (R : Kr) : Prop := xiload 2 q_X12_known_6 ls st z f E R
def q_X12_known_4 (ls : Ls) (st : List Value) (z : Zz) (f : Fm) (E : Ej) (R : Kr) : Prop := xiload 1 q_X12_known_5 ls st z f E R
def q_X12_known_1 (ls : Ls) (st : List Value) (z : Zz) (f : Fm) (E : Ej) (R : Kr) : Prop := xget 11 1 q_X12_known_4 ls st z f E R
def q_X12_known_0 (ls : Ls) (st : List Value) (z : Zz) (f : Fm) (E : Ej) (R : Kr) : Prop := xaload 0 q_X12_known_1 ls st z f E R
set_option maxRecDepth 100000 in
theorem t_X12_known {s0 : State} {D : va_G} {ids : Nat → ClassId} {V : Nat → Nat} {l : Launch} {K : Kr} {E : Ej} (G : GG s0 D ids V) (X : EnX s0 D ids l RX12 cX12_known 4 (some .int) "known" rm_X12_known K E) : Sd E K 0 q_X12_known_0 := by
  have h26 : Sd E K 26 q_X12_known_26 := sd_ret X (by decide +kernel : decode cX12_known 26 = .ok (.ireturn, 1))
  have h24 : Sd E K 24 q_X12_known_24 := sd_bipush X (by decide +kernel : decode cX12_known 24 = .ok (.bipush (-12), 2)) (by decide +kernel) h26
  have h58 : Sd E K 58 q_X12_known_58 := sd_ret X (by decide +kernel : decode cX12_known 58 = .ok (.ireturn, 1))
  have h55 : Sd E K 55 q_X12_known_55 := sd_callV (n := 3) (ci := 8) X (ct_X9_numberOf G) (by decide +kernel : decode cX12_known 55 = .ok (.invokevirtual 151, 3)) wd_935 wd_932 wd_933 wd_934 wd_28 (by decide +kernel) (Or.inl ⟨by decide, _, _, rfl⟩) ⟨Nat.le_of_ble_eq_true rfl, Nat.le_of_ble_eq_true rfl⟩ h58
  have h54 : Sd E K 54 q_X12_known_54 := sd_iload_n X (by decide +kernel : decode cX12_known 54 = .ok (.iload_n 3, 1)) rfl h55
  have h53 : Sd E K 53 q_X12_known_53 := sd_iload_n X (by decide +kernel : decode cX12_known 53 = .ok (.iload_n 2, 1)) rfl h54
  have h52 : Sd E K 52 q_X12_known_52 := sd_iload_n X (by decide +kernel : decode cX12_known 52 = .ok (.iload_n 1, 1)) rfl h53
  have h49 : Sd E K 49 q_X12_known_49 := sd_get X (by decide +kernel : decode cX12_known 49 = .ok (.getfield 116, 3)) ok_X1 (Nat.le_of_ble_eq_true rfl) wd_157 h52
  have h46 : Sd E K 46 q_X12_known_46 := sd_get X (by decide +kernel : decode cX12_known 46 = .ok (.getfield 20, 3)) ok_X12 (Nat.le_of_ble_eq_true rfl) wd_375 h49
  have h45 : Sd E K 45 q_X12_known_45 := sd_aload_n X (by decide +kernel : decode cX12_known 45 = .ok (.aload_n 0, 1)) rfl h46
  have h44 : Sd E K 44 q_X12_known_44 := sd_ret X (by decide +kernel : decode cX12_known 44 = .ok (.ireturn, 1))
  have h42 : Sd E K 42 q_X12_known_42 := sd_bipush X (by decide +kernel : decode cX12_known 42 = .ok (.bipush (-15), 2)) (by decide +kernel) h44
  have h39 : Sd E K 39 q_X12_known_39 := sd_if_ne X (by decide +kernel : decode cX12_known 39 = .ok (.ifCond .ne 6, 3)) (by decide) h45 h42
  have h36 : Sd E K 36 q_X12_known_36 := sd_callV (n := 2) (ci := 8) X (ct_X9_isKnown G) (by decide +kernel : decode cX12_known 36 = .ok (.invokevirtual 148, 3)) wd_550 wd_931 wd_548 wd_549 wd_28 (by decide +kernel) (Or.inl ⟨by decide, _, _, rfl⟩) ⟨Nat.le_of_ble_eq_true rfl, Nat.le_of_ble_eq_true rfl⟩ h39
  have h35 : Sd E K 35 q_X12_known_35 := sd_iload_n X (by decide +kernel : decode cX12_known 35 = .ok (.iload_n 2, 1)) rfl h36
  have h34 : Sd E K 34 q_X12_known_34 := sd_iload_n X (by decide +kernel : decode cX12_known 34 = .ok (.iload_n 1, 1)) rfl h35
  have h31 : Sd E K 31 q_X12_known_31 := sd_get X (by decide +kernel : decode cX12_known 31 = .ok (.getfield 116, 3)) ok_X1 (Nat.le_of_ble_eq_true rfl) wd_157 h34
  have h28 : Sd E K 28 q_X12_known_28 := sd_get X (by decide +kernel : decode cX12_known 28 = .ok (.getfield 20, 3)) ok_X12 (Nat.le_of_ble_eq_true rfl) wd_375 h31
  have h27 : Sd E K 27 q_X12_known_27 := sd_aload_n X (by decide +kernel : decode cX12_known 27 = .ok (.aload_n 0, 1)) rfl h28
  have h21 : Sd E K 21 q_X12_known_21 := sd_icmp_le X (by decide +kernel : decode cX12_known 21 = .ok (.if_icmp .le 6, 3)) (by decide) h27 h24
  have h20 : Sd E K 20 q_X12_known_20 := sd_iconst X (by decide +kernel : decode cX12_known 20 = .ok (.iconst 3, 1)) (by decide +kernel) h21
  have h19 : Sd E K 19 q_X12_known_19 := sd_iload_n X (by decide +kernel : decode cX12_known 19 = .ok (.iload_n 3, 1)) rfl h20
  have h16 : Sd E K 16 q_X12_known_16 := sd_if_lt X (by decide +kernel : decode cX12_known 16 = .ok (.ifCond .lt 8, 3)) (by decide) h24 h19
  have h15 : Sd E K 15 q_X12_known_15 := sd_iload_n X (by decide +kernel : decode cX12_known 15 = .ok (.iload_n 3, 1)) rfl h16
  have h14 : Sd E K 14 q_X12_known_14 := sd_ret X (by decide +kernel : decode cX12_known 14 = .ok (.ireturn, 1))
  have h12 : Sd E K 12 q_X12_known_12 := sd_bipush X (by decide +kernel : decode cX12_known 12 = .ok (.bipush (-11), 2)) (by decide +kernel) h14
  have h9 : Sd E K 9 q_X12_known_9 := sd_if_ne X (by decide +kernel : decode cX12_known 9 = .ok (.ifCond .ne 6, 3)) (by decide) h15 h12
  have h6 : Sd E K 6 q_X12_known_6 := sd_callV (n := 2) (ci := 1) X (ct_X1_hasForts G) (by decide +kernel : decode cX12_known 6 = .ok (.invokevirtual 138, 3)) wd_470 wd_924 wd_468 wd_469 wd_26 (by decide +kernel) (Or.inl ⟨by decide, _, _, rfl⟩) ⟨Nat.le_of_ble_eq_true rfl, Nat.le_of_ble_eq_true rfl⟩ h9
  have h5 : Sd E K 5 q_X12_known_5 := sd_iload_n X (by decide +kernel : decode cX12_known 5 = .ok (.iload_n 2, 1)) rfl h6
  have h4 : Sd E K 4 q_X12_known_4 := sd_iload_n X (by decide +kernel : decode cX12_known 4 = .ok (.iload_n 1, 1)) rfl h5
  have h1 : Sd E K 1 q_X12_known_1 := sd_get X (by decide +kernel : decode cX12_known 1 = .ok (.getfield 20, 3)) ok_X12 (Nat.le_of_ble_eq_true rfl) wd_375 h4
  have h0 : Sd E K 0 q_X12_known_0 := sd_aload_n X (by decide +kernel : decode cX12_known 0 = .ok (.aload_n 0, 1)) rfl h1
  exact h0
set_option maxHeartbeats 4000000 in
set_option maxRecDepth 100000 in
theorem ct_X12_known {s0 : State} {D : va_G} {ids : Nat → ClassId} {V : Nat → Nat} {l : Launch} (G : GG s0 D ids V) : CT s0 D ids l yX12_known cX12_known 4 (some .int) rm_X12_known Sp_X12_known := CT.of (by decide +kernel) G.k (by
  rintro as z f K E ⟨b, i, j, w, M, rfl, hi, hj, hw, ⟨⟨hs, h0, hs2⟩, hC, hE⟩, hK⟩ X
  refine ⟨Nat.le_of_ble_eq_true rfl, by simp [Value.category], t_X12_known G X _ _ _ _ ?_⟩
  have hS := hE.1.1
  have hF := hE.2.1
  simp (disch := omega) only [q_X12_known_0, q_X12_known_1, q_X12_known_4, q_X12_known_5, q_X12_known_6, q_X12_known_9, q_X12_known_12, q_X12_known_14, q_X12_known_15, q_X12_known_16, q_X12_known_19, q_X12_known_20, q_X12_known_21, q_X12_known_24, q_X12_known_26, q_X12_known_27, q_X12_known_28, q_X12_known_31, q_X12_known_34, q_X12_known_35, q_X12_known_36, q_X12_known_39, q_X12_known_42, q_X12_known_44, q_X12_known_45, q_X12_known_46, q_X12_known_49, q_X12_known_52, q_X12_known_53, q_X12_known_54, q_X12_known_55, q_X12_known_58, xpush, xiload, xaload, xlload, xfload, xdload, lkill, xistore, xastore, xfstore, xlstore, xdstore, xiinc, xbin, xdiv, xun, xlbin, xi2l, xi2f, xi2d, xlcmp, xfcmp, xdcmp, xfdiv, xddiv, c1, xdup, xpop, xdup_x1, xdup2, xif, xicmp, xtab, xtabL, xget, xput, xald, xast, xalen, xnew, xnewa, c1s, recvOk, xcall, kont, xret, xlret, xfret, xdret, xaret, xvret, xs, xnewq, xastq, xcopy, xcopyF, xobj, xmax, xmin, xdead, xpushq, xmna, ls0, List.map_cons, List.map_nil, List.length_cons, List.length_nil, List.replicate, List.append_nil, List.cons_append, List.nil_append, List.getElem?_cons_zero, List.getElem?_cons_succ, List.getElem?_nil, List.set_cons_zero, List.set_cons_succ, List.take_succ_cons, List.take_zero, List.drop_succ_cons, List.drop_zero, List.reverse_cons, List.reverse_nil, List.sum_cons, List.sum_nil, Value.category, Option.toList_some, Option.toList_none, Nat.reduceAdd, Nat.reduceSub, Nat.reduceLT, Nat.reduceLeDiff, Nat.zero_add, Nat.le_refl, true_and, and_true, Nat.sub_zero, Nat.zero_lt_succ, Nat.zero_le, Nat.not_lt_zero, Nat.reduceEqDiff, Nat.one_ne_zero, nI_toInt, Int.reduceEq, Int.reduceAdd, Int.reduceLT, Int.reduceLE, Int.cast_ofNat_Int, reduceIte, or_false, false_or, eq_self, or_true, true_or, or_self, nI_clamp, vp_in_nI, nI_ltI, nI_leI, nI_eq, nI_add, nI_zero9, nI_nlt0, nI_le0, nI_lt0, arG, va_rf, not_false_eq_true, not_true_eq_false, false_implies, true_implies, implies_true, ne_eq, okv_int, okv_z0, okv_z1, okv_zN, okv_ref, okv_arr, okv_null, vn_z0, vn_z1, vn_zN, nr_int, nr_z, va_up_self, up_fr, rw1_j, rw1_up, h0, hC.1]
  refine ⟨_, i, j, M, rfl, hi, hj, hS, hC, ?_⟩
  by_cases q : i < M 11 0 2 ∧ j < M 11 0 2
  · rw [if_pos q] at hK ⊢
    have h1 := hS.1 2 i j (by omega)
    simp (disch := omega) only [q_X12_known_0, q_X12_known_1, q_X12_known_4, q_X12_known_5, q_X12_known_6, q_X12_known_9, q_X12_known_12, q_X12_known_14, q_X12_known_15, q_X12_known_16, q_X12_known_19, q_X12_known_20, q_X12_known_21, q_X12_known_24, q_X12_known_26, q_X12_known_27, q_X12_known_28, q_X12_known_31, q_X12_known_34, q_X12_known_35, q_X12_known_36, q_X12_known_39, q_X12_known_42, q_X12_known_44, q_X12_known_45, q_X12_known_46, q_X12_known_49, q_X12_known_52, q_X12_known_53, q_X12_known_54, q_X12_known_55, q_X12_known_58, xpush, xiload, xaload, xlload, xfload, xdload, lkill, xistore, xastore, xfstore, xlstore, xdstore, xiinc, xbin, xdiv, xun, xlbin, xi2l, xi2f, xi2d, xlcmp, xfcmp, xdcmp, xfdiv, xddiv, c1, xdup, xpop, xdup_x1, xdup2, xif, xicmp, xtab, xtabL, xget, xput, xald, xast, xalen, xnew, xnewa, c1s, recvOk, xcall, kont, xret, xlret, xfret, xdret, xaret, xvret, xs, xnewq, xastq, xcopy, xcopyF, xobj, xmax, xmin, xdead, xpushq, xmna, ls0, List.map_cons, List.map_nil, List.length_cons, List.length_nil, List.replicate, List.append_nil, List.cons_append, List.nil_append, List.getElem?_cons_zero, List.getElem?_cons_succ, List.getElem?_nil, List.set_cons_zero, List.set_cons_succ, List.take_succ_cons, List.take_zero, List.drop_succ_cons, List.drop_zero, List.reverse_cons, List.reverse_nil, List.sum_cons, List.sum_nil, Value.category, Option.toList_some, Option.toList_none, Nat.reduceAdd, Nat.reduceSub, Nat.reduceLT, Nat.reduceLeDiff, Nat.zero_add, Nat.le_refl, true_and, and_true, Nat.sub_zero, Nat.zero_lt_succ, Nat.zero_le, Nat.not_lt_zero, Nat.reduceEqDiff, Nat.one_ne_zero, nI_toInt, Int.reduceEq, Int.reduceAdd, Int.reduceLT, Int.reduceLE, Int.cast_ofNat_Int, reduceIte, or_false, false_or, eq_self, or_true, true_or, or_self, nI_clamp, vp_in_nI, nI_ltI, nI_leI, nI_eq, nI_add, nI_zero9, nI_nlt0, nI_le0, nI_lt0, arG, va_rf, not_false_eq_true, not_true_eq_false, false_implies, true_implies, implies_true, ne_eq, okv_int, okv_z0, okv_z1, okv_zN, okv_ref, okv_arr, okv_null, vn_z0, vn_z1, vn_zN, nr_int, nr_z, va_up_self, up_fr, rw1_j, rw1_up, h0, hC.1, hC.2.2.2.1.1]
    refine ⟨fun _ => ?_, fun e => absurd e (by omega)⟩
    refine ⟨_, i, j, M, rfl, by omega, by omega, h1, hC.2.2.2.1, ?_⟩
    by_cases q2 : 0 < M 2 i j
    · rw [if_pos q2] at hK ⊢
      simp (disch := omega) only [q_X12_known_0, q_X12_known_1, q_X12_known_4, q_X12_known_5, q_X12_known_6, q_X12_known_9, q_X12_known_12, q_X12_known_14, q_X12_known_15, q_X12_known_16, q_X12_known_19, q_X12_known_20, q_X12_known_21, q_X12_known_24, q_X12_known_26, q_X12_known_27, q_X12_known_28, q_X12_known_31, q_X12_known_34, q_X12_known_35, q_X12_known_36, q_X12_known_39, q_X12_known_42, q_X12_known_44, q_X12_known_45, q_X12_known_46, q_X12_known_49, q_X12_known_52, q_X12_known_53, q_X12_known_54, q_X12_known_55, q_X12_known_58, xpush, xiload, xaload, xlload, xfload, xdload, lkill, xistore, xastore, xfstore, xlstore, xdstore, xiinc, xbin, xdiv, xun, xlbin, xi2l, xi2f, xi2d, xlcmp, xfcmp, xdcmp, xfdiv, xddiv, c1, xdup, xpop, xdup_x1, xdup2, xif, xicmp, xtab, xtabL, xget, xput, xald, xast, xalen, xnew, xnewa, c1s, recvOk, xcall, kont, xret, xlret, xfret, xdret, xaret, xvret, xs, xnewq, xastq, xcopy, xcopyF, xobj, xmax, xmin, xdead, xpushq, xmna, ls0, List.map_cons, List.map_nil, List.length_cons, List.length_nil, List.replicate, List.append_nil, List.cons_append, List.nil_append, List.getElem?_cons_zero, List.getElem?_cons_succ, List.getElem?_nil, List.set_cons_zero, List.set_cons_succ, List.take_succ_cons, List.take_zero, List.drop_succ_cons, List.drop_zero, List.reverse_cons, List.reverse_nil, List.sum_cons, List.sum_nil, Value.category, Option.toList_some, Option.toList_none, Nat.reduceAdd, Nat.reduceSub, Nat.reduceLT, Nat.reduceLeDiff, Nat.zero_add, Nat.le_refl, true_and, and_true, Nat.sub_zero, Nat.zero_lt_succ, Nat.zero_le, Nat.not_lt_zero, Nat.reduceEqDiff, Nat.one_ne_zero, nI_toInt, Int.reduceEq, Int.reduceAdd, Int.reduceLT, Int.reduceLE, Int.cast_ofNat_Int, reduceIte, or_false, false_or, eq_self, or_true, true_or, or_self, nI_clamp, vp_in_nI, nI_ltI, nI_leI, nI_eq, nI_add, nI_zero9, nI_nlt0, nI_le0, nI_lt0, arG, va_rf, not_false_eq_true, not_true_eq_false, false_implies, true_implies, implies_true, ne_eq, okv_int, okv_z0, okv_z1, okv_zN, okv_ref, okv_arr, okv_null, vn_z0, vn_z1, vn_zN, nr_int, nr_z, va_up_self, up_fr, rw1_j, rw1_up, h0, hC.1, hC.2.2.2.1.1]
      refine ⟨_, i, j, w, M, rfl, by omega, by omega, hw, hC.2.2.2.1, ?_⟩
      simp (disch := omega) only [q_X12_known_0, q_X12_known_1, q_X12_known_4, q_X12_known_5, q_X12_known_6, q_X12_known_9, q_X12_known_12, q_X12_known_14, q_X12_known_15, q_X12_known_16, q_X12_known_19, q_X12_known_20, q_X12_known_21, q_X12_known_24, q_X12_known_26, q_X12_known_27, q_X12_known_28, q_X12_known_31, q_X12_known_34, q_X12_known_35, q_X12_known_36, q_X12_known_39, q_X12_known_42, q_X12_known_44, q_X12_known_45, q_X12_known_46, q_X12_known_49, q_X12_known_52, q_X12_known_53, q_X12_known_54, q_X12_known_55, q_X12_known_58, xpush, xiload, xaload, xlload, xfload, xdload, lkill, xistore, xastore, xfstore, xlstore, xdstore, xiinc, xbin, xdiv, xun, xlbin, xi2l, xi2f, xi2d, xlcmp, xfcmp, xdcmp, xfdiv, xddiv, c1, xdup, xpop, xdup_x1, xdup2, xif, xicmp, xtab, xtabL, xget, xput, xald, xast, xalen, xnew, xnewa, c1s, recvOk, xcall, kont, xret, xlret, xfret, xdret, xaret, xvret, xs, xnewq, xastq, xcopy, xcopyF, xobj, xmax, xmin, xdead, xpushq, xmna, ls0, List.map_cons, List.map_nil, List.length_cons, List.length_nil, List.replicate, List.append_nil, List.cons_append, List.nil_append, List.getElem?_cons_zero, List.getElem?_cons_succ, List.getElem?_nil, List.set_cons_zero, List.set_cons_succ, List.take_succ_cons, List.take_zero, List.drop_succ_cons, List.drop_zero, List.reverse_cons, List.reverse_nil, List.sum_cons, List.sum_nil, Value.category, Option.toList_some, Option.toList_none, Nat.reduceAdd, Nat.reduceSub, Nat.reduceLT, Nat.reduceLeDiff, Nat.zero_add, Nat.le_refl, true_and, and_true, Nat.sub_zero, Nat.zero_lt_succ, Nat.zero_le, Nat.not_lt_zero, Nat.reduceEqDiff, Nat.one_ne_zero, nI_toInt, Int.reduceEq, Int.reduceAdd, Int.reduceLT, Int.reduceLE, Int.cast_ofNat_Int, reduceIte, or_false, false_or, eq_self, or_true, true_or, or_self, nI_clamp, vp_in_nI, nI_ltI, nI_leI, nI_eq, nI_add, nI_zero9, nI_nlt0, nI_le0, nI_lt0, arG, va_rf, not_false_eq_true, not_true_eq_false, false_implies, true_implies, implies_true, ne_eq, okv_int, okv_z0, okv_z1, okv_zN, okv_ref, okv_arr, okv_null, vn_z0, vn_z1, vn_zN, nr_int, nr_z, va_up_self, up_fr, rw1_j, rw1_up]
      exact hK
    · rw [if_neg q2] at hK ⊢
      simp (disch := omega) only [q_X12_known_0, q_X12_known_1, q_X12_known_4, q_X12_known_5, q_X12_known_6, q_X12_known_9, q_X12_known_12, q_X12_known_14, q_X12_known_15, q_X12_known_16, q_X12_known_19, q_X12_known_20, q_X12_known_21, q_X12_known_24, q_X12_known_26, q_X12_known_27, q_X12_known_28, q_X12_known_31, q_X12_known_34, q_X12_known_35, q_X12_known_36, q_X12_known_39, q_X12_known_42, q_X12_known_44, q_X12_known_45, q_X12_known_46, q_X12_known_49, q_X12_known_52, q_X12_known_53, q_X12_known_54, q_X12_known_55, q_X12_known_58, xpush, xiload, xaload, xlload, xfload, xdload, lkill, xistore, xastore, xfstore, xlstore, xdstore, xiinc, xbin, xdiv, xun, xlbin, xi2l, xi2f, xi2d, xlcmp, xfcmp, xdcmp, xfdiv, xddiv, c1, xdup, xpop, xdup_x1, xdup2, xif, xicmp, xtab, xtabL, xget, xput, xald, xast, xalen, xnew, xnewa, c1s, recvOk, xcall, kont, xret, xlret, xfret, xdret, xaret, xvret, xs, xnewq, xastq, xcopy, xcopyF, xobj, xmax, xmin, xdead, xpushq, xmna, ls0, List.map_cons, List.map_nil, List.length_cons, List.length_nil, List.replicate, List.append_nil, List.cons_append, List.nil_append, List.getElem?_cons_zero, List.getElem?_cons_succ, List.getElem?_nil, List.set_cons_zero, List.set_cons_succ, List.take_succ_cons, List.take_zero, List.drop_succ_cons, List.drop_zero, List.reverse_cons, List.reverse_nil, List.sum_cons, List.sum_nil, Value.category, Option.toList_some, Option.toList_none, Nat.reduceAdd, Nat.reduceSub, Nat.reduceLT, Nat.reduceLeDiff, Nat.zero_add, Nat.le_refl, true_and, and_true, Nat.sub_zero, Nat.zero_lt_succ, Nat.zero_le, Nat.not_lt_zero, Nat.reduceEqDiff, Nat.one_ne_zero, nI_toInt, Int.reduceEq, Int.reduceAdd, Int.reduceLT, Int.reduceLE, Int.cast_ofNat_Int, reduceIte, or_false, false_or, eq_self, or_true, true_or, or_self, nI_clamp, vp_in_nI, nI_ltI, nI_leI, nI_eq, nI_add, nI_zero9, nI_nlt0, nI_le0, nI_lt0, arG, va_rf, not_false_eq_true, not_true_eq_false, false_implies, true_implies, implies_true, ne_eq, okv_int, okv_z0, okv_z1, okv_zN, okv_ref, okv_arr, okv_null, vn_z0, vn_z1, vn_zN, nr_int, nr_z, va_up_self, up_fr, rw1_j, rw1_up]
      exact hK
  · rw [if_neg q] at hK ⊢
    simp (disch := omega) only [q_X12_known_0, q_X12_known_1, q_X12_known_4, q_X12_known_5, q_X12_known_6, q_X12_known_9, q_X12_known_12, q_X12_known_14, q_X12_known_15, q_X12_known_16, q_X12_known_19, q_X12_known_20, q_X12_known_21, q_X12_known_24, q_X12_known_26, q_X12_known_27, q_X12_known_28, q_X12_known_31, q_X12_known_34, q_X12_known_35, q_X12_known_36, q_X12_known_39, q_X12_known_42, q_X12_known_44, q_X12_known_45, q_X12_known_46, q_X12_known_49, q_X12_known_52, q_X12_known_53, q_X12_known_54, q_X12_known_55, q_X12_known_58, xpush, xiload, xaload, xlload, xfload, xdload, lkill, xistore, xastore, xfstore, xlstore, xdstore, xiinc, xbin, xdiv, xun, xlbin, xi2l, xi2f, xi2d, xlcmp, xfcmp, xdcmp, xfdiv, xddiv, c1, xdup, xpop, xdup_x1, xdup2, xif, xicmp, xtab, xtabL, xget, xput, xald, xast, xalen, xnew, xnewa, c1s, recvOk, xcall, kont, xret, xlret, xfret, xdret, xaret, xvret, xs, xnewq, xastq, xcopy, xcopyF, xobj, xmax, xmin, xdead, xpushq, xmna, ls0, List.map_cons, List.map_nil, List.length_cons, List.length_nil, List.replicate, List.append_nil, List.cons_append, List.nil_append, List.getElem?_cons_zero, List.getElem?_cons_succ, List.getElem?_nil, List.set_cons_zero, List.set_cons_succ, List.take_succ_cons, List.take_zero, List.drop_succ_cons, List.drop_zero, List.reverse_cons, List.reverse_nil, List.sum_cons, List.sum_nil, Value.category, Option.toList_some, Option.toList_none, Nat.reduceAdd, Nat.reduceSub, Nat.reduceLT, Nat.reduceLeDiff, Nat.zero_add, Nat.le_refl, true_and, and_true, Nat.sub_zero, Nat.zero_lt_succ, Nat.zero_le, Nat.not_lt_zero, Nat.reduceEqDiff, Nat.one_ne_zero, nI_toInt, Int.reduceEq, Int.reduceAdd, Int.reduceLT, Int.reduceLE, Int.cast_ofNat_Int, reduceIte, or_false, false_or, eq_self, or_true, true_or, or_self, nI_clamp, vp_in_nI, nI_ltI, nI_leI, nI_eq, nI_add, nI_zero9, nI_nlt0, nI_le0, nI_lt0, arG, va_rf, not_false_eq_true, not_true_eq_false, false_implies, true_implies, implies_true, ne_eq, okv_int, okv_z0, okv_z1, okv_zN, okv_ref, okv_arr, okv_null, vn_z0, vn_z1, vn_zN, nr_int, nr_z, va_up_self, up_fr, rw1_j, rw1_up]
    exact hK)
abbrev Sp_X12_letterOf : Spt := fun as z f K => ∃ (b k w : Nat) (M : Cm), as = [.ref b, .int (nI k), .int (nI w)] ∧ k < 1048576 ∧ w < 5 ∧ oA f b M ∧ K (some (.int (if k < M 11 0 1 then nI (M (6 + w) 0 k) else -11))) z f
def rm_X12_letterOf : Room := { frames := 1, cells := 0, slots := 0, locals := 22 }
def q_X12_letterOf_20 (ls : Ls) (st : List Value) (z : Zz) (f : Fm) (E : Ej) (R : Kr) : Prop := xret .int ls st z f E R
def q_X12_letterOf_18 (ls : Ls) (st : List Value) (z : Zz) (f : Fm) (E : Ej) (R : Kr) : Prop := xpush (.int (-11)) q_X12_letterOf_20 ls st z f E R
def q_X12_letterOf_32 (ls : Ls) (st : List Value) (z : Zz) (f : Fm) (E : Ej) (R : Kr) : Prop := xret .int ls st z f E R
def q_X12_letterOf_30 (ls : Ls) (st : List Value) (z : Zz) (f : Fm) (E : Ej) (R : Kr) : Prop := xpush (.int (-12)) q_X12_letterOf_32 ls st z f E R
def q_X12_letterOf_45 (ls : Ls) (st : List Value) (z : Zz) (f : Fm) (E : Ej) (R : Kr) : Prop := xret .int ls st z f E R
def q_X12_letterOf_42 (ls : Ls) (st : List Value) (z : Zz) (f : Fm) (E : Ej) (R : Kr) : Prop := xcall 3 5 Sp_X5_numberOf 0 0 q_X12_letterOf_45 ls st z f E R
def q_X12_letterOf_41 (ls : Ls) (st : List Value) (z : Zz) (f : Fm) (E : Ej) (R : Kr) : Prop := xiload 2 q_X12_letterOf_42 ls st z f E R
def q_X12_letterOf_40 (ls : Ls) (st : List Value) (z : Zz) (f : Fm) (E : Ej) (R : Kr) : Prop := xiload 1 q_X12_letterOf_41 ls st z f E R
def q_X12_letterOf_37 (ls : Ls) (st : List Value) (z : Zz) (f : Fm) (E : Ej) (R : Kr) : Prop := xget 1 3 q_X12_letterOf_40 ls st z f E R
def q_X12_letterOf_34 (ls : Ls) (st : List Value) (z : Zz) (f : Fm) (E : Ej) (R : Kr) : Prop := xget 11 1 q_X12_letterOf_37 ls st z f E R
def q_X12_letterOf_33 (ls : Ls) (st : List Value) (z : Zz) (f : Fm) (E : Ej) (R : Kr) : Prop := xaload 0 q_X12_letterOf_34 ls st z f E R
def q_X12_letterOf_27 (ls : Ls) (st : List Value) (z : Zz) (f : Fm) (E : Ej) (R : Kr) : Prop := xicmp (fun x y => x ≤ y) q_X12_letterOf_33 q_X12_letterOf_30 ls st z f E R
def q_X12_letterOf_26 (ls : Ls) (st : List Value) (z : Zz) (f : Fm) (E : Ej) (R : Kr) : Prop := xpush (.int (nI 4)) q_X12_letterOf_27 ls st z f E R
def q_X12_letterOf_25 (ls : Ls) (st : List Value) (z : Zz) (f : Fm) (E : Ej) (R : Kr) : Prop := xiload 2 q_X12_letterOf_26 ls st z f E R
def q_X12_letterOf_22 (ls : Ls) (st : List Value) (z : Zz) (f : Fm) (E : Ej) (R : Kr) : Prop := xif (fun x => x < 0) q_X12_letterOf_30 q_X12_letterOf_25 ls st z f E R
def q_X12_letterOf_21 (ls : Ls) (st : List Value) (z : Zz) (f : Fm) (E : Ej) (R : Kr) : Prop := xiload 2 q_X12_letterOf_22 ls st z f E R
def q_X12_letterOf_15 (ls : Ls) (st : List Value) (z : Zz) (f : Fm) (E : Ej) (R : Kr) : Prop := xicmp (fun x y => x < y) q_X12_letterOf_21 q_X12_letterOf_18 ls st z f E R
def q_X12_letterOf_12 (ls : Ls) (st : List Value) (z : Zz) (f : Fm) (E : Ej) (R : Kr) : Prop := xget 4 5 q_X12_letterOf_15 ls st z f E R
def q_X12_letterOf_9 (ls : Ls) (st : List Value) (z : Zz) (f : Fm) (E : Ej) (R : Kr) : Prop := xget 1 3 q_X12_letterOf_12 ls st z f E R
def q_X12_letterOf_6 (ls : Ls) (st : List Value) (z : Zz) (f : Fm) (E : Ej) (R : Kr) : Prop := xget 11 1 q_X12_letterOf_9 ls st z f E R
def q_X12_letterOf_5 (ls : Ls) (st : List Value) (z : Zz) (f : Fm) (E : Ej) (R : Kr) : Prop := xaload 0 q_X12_letterOf_6 ls st z f E R
def q_X12_letterOf_4 (ls : Ls) (st : List Value) (z : Zz) (f : Fm) (E : Ej) (R : Kr) : Prop := xiload 1 q_X12_letterOf_5 ls st z f E R
def q_X12_letterOf_1 (ls : Ls) (st : List Value) (z : Zz) (f : Fm) (E : Ej) (R : Kr) : Prop := xif (fun x => x < 0) q_X12_letterOf_18 q_X12_letterOf_4 ls st z f E R
def q_X12_letterOf_0 (ls : Ls) (st : List Value) (z : Zz) (f : Fm) (E : Ej) (R : Kr) : Prop := xiload 1 q_X12_letterOf_1 ls st z f E R
set_option maxRecDepth 100000 in
theorem t_X12_letterOf {s0 : State} {D : va_G} {ids : Nat → ClassId} {V : Nat → Nat} {l : Launch} {K : Kr} {E : Ej} (G : GG s0 D ids V) (X : EnX s0 D ids l RX12 cX12_letterOf 3 (some .int) "letterOf" rm_X12_letterOf K E) : Sd E K 0 q_X12_letterOf_0 := by
  have h20 : Sd E K 20 q_X12_letterOf_20 := sd_ret X (by decide +kernel : decode cX12_letterOf 20 = .ok (.ireturn, 1))
  have h18 : Sd E K 18 q_X12_letterOf_18 := sd_bipush X (by decide +kernel : decode cX12_letterOf 18 = .ok (.bipush (-11), 2)) (by decide +kernel) h20
  have h32 : Sd E K 32 q_X12_letterOf_32 := sd_ret X (by decide +kernel : decode cX12_letterOf 32 = .ok (.ireturn, 1))
  have h30 : Sd E K 30 q_X12_letterOf_30 := sd_bipush X (by decide +kernel : decode cX12_letterOf 30 = .ok (.bipush (-12), 2)) (by decide +kernel) h32
  have h45 : Sd E K 45 q_X12_letterOf_45 := sd_ret X (by decide +kernel : decode cX12_letterOf 45 = .ok (.ireturn, 1))
  have h42 : Sd E K 42 q_X12_letterOf_42 := sd_callV (n := 2) (ci := 4) X (ct_X5_numberOf G) (by decide +kernel : decode cX12_letterOf 42 = .ok (.invokevirtual 219, 3)) wd_958 wd_955 wd_956 wd_957 wd_29 (by decide +kernel) (Or.inl ⟨by decide, _, _, rfl⟩) ⟨Nat.le_of_ble_eq_true rfl, Nat.le_of_ble_eq_true rfl⟩ h45
  have h41 : Sd E K 41 q_X12_letterOf_41 := sd_iload_n X (by decide +kernel : decode cX12_letterOf 41 = .ok (.iload_n 2, 1)) rfl h42
  have h40 : Sd E K 40 q_X12_letterOf_40 := sd_iload_n X (by decide +kernel : decode cX12_letterOf 40 = .ok (.iload_n 1, 1)) rfl h41
  have h37 : Sd E K 37 q_X12_letterOf_37 := sd_get X (by decide +kernel : decode cX12_letterOf 37 = .ok (.getfield 129, 3)) ok_X1 (Nat.le_of_ble_eq_true rfl) wd_160 h40
  have h34 : Sd E K 34 q_X12_letterOf_34 := sd_get X (by decide +kernel : decode cX12_letterOf 34 = .ok (.getfield 20, 3)) ok_X12 (Nat.le_of_ble_eq_true rfl) wd_375 h37
  have h33 : Sd E K 33 q_X12_letterOf_33 := sd_aload_n X (by decide +kernel : decode cX12_letterOf 33 = .ok (.aload_n 0, 1)) rfl h34
  have h27 : Sd E K 27 q_X12_letterOf_27 := sd_icmp_le X (by decide +kernel : decode cX12_letterOf 27 = .ok (.if_icmp .le 6, 3)) (by decide) h33 h30
  have h26 : Sd E K 26 q_X12_letterOf_26 := sd_iconst X (by decide +kernel : decode cX12_letterOf 26 = .ok (.iconst 4, 1)) (by decide +kernel) h27
  have h25 : Sd E K 25 q_X12_letterOf_25 := sd_iload_n X (by decide +kernel : decode cX12_letterOf 25 = .ok (.iload_n 2, 1)) rfl h26
  have h22 : Sd E K 22 q_X12_letterOf_22 := sd_if_lt X (by decide +kernel : decode cX12_letterOf 22 = .ok (.ifCond .lt 8, 3)) (by decide) h30 h25
  have h21 : Sd E K 21 q_X12_letterOf_21 := sd_iload_n X (by decide +kernel : decode cX12_letterOf 21 = .ok (.iload_n 2, 1)) rfl h22
  have h15 : Sd E K 15 q_X12_letterOf_15 := sd_icmp_lt X (by decide +kernel : decode cX12_letterOf 15 = .ok (.if_icmp .lt 6, 3)) (by decide) h21 h18
  have h12 : Sd E K 12 q_X12_letterOf_12 := sd_get X (by decide +kernel : decode cX12_letterOf 12 = .ok (.getfield 216, 3)) ok_X5 (Nat.le_of_ble_eq_true rfl) wd_129 h15
  have h9 : Sd E K 9 q_X12_letterOf_9 := sd_get X (by decide +kernel : decode cX12_letterOf 9 = .ok (.getfield 129, 3)) ok_X1 (Nat.le_of_ble_eq_true rfl) wd_160 h12
  have h6 : Sd E K 6 q_X12_letterOf_6 := sd_get X (by decide +kernel : decode cX12_letterOf 6 = .ok (.getfield 20, 3)) ok_X12 (Nat.le_of_ble_eq_true rfl) wd_375 h9
  have h5 : Sd E K 5 q_X12_letterOf_5 := sd_aload_n X (by decide +kernel : decode cX12_letterOf 5 = .ok (.aload_n 0, 1)) rfl h6
  have h4 : Sd E K 4 q_X12_letterOf_4 := sd_iload_n X (by decide +kernel : decode cX12_letterOf 4 = .ok (.iload_n 1, 1)) rfl h5
  have h1 : Sd E K 1 q_X12_letterOf_1 := sd_if_lt X (by decide +kernel : decode cX12_letterOf 1 = .ok (.ifCond .lt 17, 3)) (by decide) h18 h4
  have h0 : Sd E K 0 q_X12_letterOf_0 := sd_iload_n X (by decide +kernel : decode cX12_letterOf 0 = .ok (.iload_n 1, 1)) rfl h1
  exact h0
set_option maxHeartbeats 4000000 in
set_option maxRecDepth 100000 in
theorem ct_X12_letterOf {s0 : State} {D : va_G} {ids : Nat → ClassId} {V : Nat → Nat} {l : Launch} (G : GG s0 D ids V) : CT s0 D ids l yX12_letterOf cX12_letterOf 3 (some .int) rm_X12_letterOf Sp_X12_letterOf := CT.of (by decide +kernel) G.k (by
  rintro as z f K E ⟨b, k, w, M, rfl, hk, hw, ⟨⟨hs, h0, hs2⟩, hC, hE⟩, hK⟩ X
  refine ⟨Nat.le_of_ble_eq_true rfl, by simp [Value.category], t_X12_letterOf G X _ _ _ _ ?_⟩
  have hS := hE.1.1
  have hL := hE.2.2.1
  have hc := hS.s 1 (by omega)
  simp (disch := omega) only [q_X12_letterOf_0, q_X12_letterOf_1, q_X12_letterOf_4, q_X12_letterOf_5, q_X12_letterOf_6, q_X12_letterOf_9, q_X12_letterOf_12, q_X12_letterOf_15, q_X12_letterOf_18, q_X12_letterOf_20, q_X12_letterOf_21, q_X12_letterOf_22, q_X12_letterOf_25, q_X12_letterOf_26, q_X12_letterOf_27, q_X12_letterOf_30, q_X12_letterOf_32, q_X12_letterOf_33, q_X12_letterOf_34, q_X12_letterOf_37, q_X12_letterOf_40, q_X12_letterOf_41, q_X12_letterOf_42, q_X12_letterOf_45, xpush, xiload, xaload, xlload, xfload, xdload, lkill, xistore, xastore, xfstore, xlstore, xdstore, xiinc, xbin, xdiv, xun, xlbin, xi2l, xi2f, xi2d, xlcmp, xfcmp, xdcmp, xfdiv, xddiv, c1, xdup, xpop, xdup_x1, xdup2, xif, xicmp, xtab, xtabL, xget, xput, xald, xast, xalen, xnew, xnewa, c1s, recvOk, xcall, kont, xret, xlret, xfret, xdret, xaret, xvret, xs, xnewq, xastq, xcopy, xcopyF, xobj, xmax, xmin, xdead, xpushq, xmna, ls0, List.map_cons, List.map_nil, List.length_cons, List.length_nil, List.replicate, List.append_nil, List.cons_append, List.nil_append, List.getElem?_cons_zero, List.getElem?_cons_succ, List.getElem?_nil, List.set_cons_zero, List.set_cons_succ, List.take_succ_cons, List.take_zero, List.drop_succ_cons, List.drop_zero, List.reverse_cons, List.reverse_nil, List.sum_cons, List.sum_nil, Value.category, Option.toList_some, Option.toList_none, Nat.reduceAdd, Nat.reduceSub, Nat.reduceLT, Nat.reduceLeDiff, Nat.zero_add, Nat.le_refl, true_and, and_true, Nat.sub_zero, Nat.zero_lt_succ, Nat.zero_le, Nat.not_lt_zero, Nat.reduceEqDiff, Nat.one_ne_zero, nI_toInt, Int.reduceEq, Int.reduceAdd, Int.reduceLT, Int.reduceLE, Int.cast_ofNat_Int, reduceIte, or_false, false_or, eq_self, or_true, true_or, or_self, nI_clamp, vp_in_nI, nI_ltI, nI_leI, nI_eq, nI_add, nI_zero9, nI_nlt0, nI_le0, nI_lt0, arG, va_rf, not_false_eq_true, not_true_eq_false, false_implies, true_implies, implies_true, ne_eq, okv_int, okv_z0, okv_z1, okv_zN, okv_ref, okv_arr, okv_null, vn_z0, vn_z1, vn_zN, nr_int, nr_z, va_up_self, up_fr, rw1_j, rw1_up, h0, hC.1, hC.2.2.2.2.1]
  trace_state
  sorry)
def accN (M : Cm) (w : Nat) : Nat := match w with
  | 0 => M 11 0 5
  | 1 => M 11 0 2
  | 2 => M 11 0 0
  | 3 => cntN (fun i => ¬ M 0 0 i = 0) (M 11 0 2)
  | 4 => M 11 0 3
  | 5 => M 11 0 4
  | 6 => cntR M (M 11 0 2)
  | 7 => M 11 0 6
  | 8 => M 11 0 7
  | 9 => M 11 0 1
  | 10 => cntN (fun k => M 8 0 k = 0) (M 11 0 1)
  | 11 => cntN (fun k => M 8 0 k = 1) (M 11 0 1)
  | 12 => cntN (fun k => M 8 0 k = 2) (M 11 0 1)
  | _ => sumN (M 9 0) (M 11 0 1)
abbrev Sp_X12_account : Spt := fun as z f K => ∃ (b w : Nat) (M : Cm), as = [.ref b, .int (nI w)] ∧ w < 14 ∧ oA f b M ∧ K (some (.int (nI (accN M w)))) z f
def rm_X12_account : Room := { frames := 3, cells := 0, slots := 0, locals := 67 }
def q_X12_account_87 (ls : Ls) (st : List Value) (z : Zz) (f : Fm) (E : Ej) (R : Kr) : Prop := xret .int ls st z f E R
def q_X12_account_84 (ls : Ls) (st : List Value) (z : Zz) (f : Fm) (E : Ej) (R : Kr) : Prop := xget 1 7 q_X12_account_87 ls st z f E R
def q_X12_account_81 (ls : Ls) (st : List Value) (z : Zz) (f : Fm) (E : Ej) (R : Kr) : Prop := xget 11 1 q_X12_account_84 ls st z f E R
def q_X12_account_80 (ls : Ls) (st : List Value) (z : Zz) (f : Fm) (E : Ej) (R : Kr) : Prop := xaload 0 q_X12_account_81 ls st z f E R
def q_X12_account_95 (ls : Ls) (st : List Value) (z : Zz) (f : Fm) (E : Ej) (R : Kr) : Prop := xret .int ls st z f E R
def q_X12_account_92 (ls : Ls) (st : List Value) (z : Zz) (f : Fm) (E : Ej) (R : Kr) : Prop := xget 1 4 q_X12_account_95 ls st z f E R
def q_X12_account_89 (ls : Ls) (st : List Value) (z : Zz) (f : Fm) (E : Ej) (R : Kr) : Prop := xget 11 1 q_X12_account_92 ls st z f E R
def q_X12_account_88 (ls : Ls) (st : List Value) (z : Zz) (f : Fm) (E : Ej) (R : Kr) : Prop := xaload 0 q_X12_account_89 ls st z f E R
def q_X12_account_106 (ls : Ls) (st : List Value) (z : Zz) (f : Fm) (E : Ej) (R : Kr) : Prop := xret .int ls st z f E R
def q_X12_account_103 (ls : Ls) (st : List Value) (z : Zz) (f : Fm) (E : Ej) (R : Kr) : Prop := xget 7 1 q_X12_account_106 ls st z f E R
def q_X12_account_100 (ls : Ls) (st : List Value) (z : Zz) (f : Fm) (E : Ej) (R : Kr) : Prop := xget 1 1 q_X12_account_103 ls st z f E R
def q_X12_account_97 (ls : Ls) (st : List Value) (z : Zz) (f : Fm) (E : Ej) (R : Kr) : Prop := xget 11 1 q_X12_account_100 ls st z f E R
def q_X12_account_96 (ls : Ls) (st : List Value) (z : Zz) (f : Fm) (E : Ej) (R : Kr) : Prop := xaload 0 q_X12_account_97 ls st z f E R
def q_X12_account_114 (ls : Ls) (st : List Value) (z : Zz) (f : Fm) (E : Ej) (R : Kr) : Prop := xret .int ls st z f E R
def q_X12_account_111 (ls : Ls) (st : List Value) (z : Zz) (f : Fm) (E : Ej) (R : Kr) : Prop := xcall 1 2 Sp_X1_countSilent 0 0 q_X12_account_114 ls st z f E R
def q_X12_account_108 (ls : Ls) (st : List Value) (z : Zz) (f : Fm) (E : Ej) (R : Kr) : Prop := xget 11 1 q_X12_account_111 ls st z f E R
def q_X12_account_107 (ls : Ls) (st : List Value) (z : Zz) (f : Fm) (E : Ej) (R : Kr) : Prop := xaload 0 q_X12_account_108 ls st z f E R
def q_X12_account_122 (ls : Ls) (st : List Value) (z : Zz) (f : Fm) (E : Ej) (R : Kr) : Prop := xret .int ls st z f E R
def q_X12_account_119 (ls : Ls) (st : List Value) (z : Zz) (f : Fm) (E : Ej) (R : Kr) : Prop := xget 1 5 q_X12_account_122 ls st z f E R
def q_X12_account_116 (ls : Ls) (st : List Value) (z : Zz) (f : Fm) (E : Ej) (R : Kr) : Prop := xget 11 1 q_X12_account_119 ls st z f E R
def q_X12_account_115 (ls : Ls) (st : List Value) (z : Zz) (f : Fm) (E : Ej) (R : Kr) : Prop := xaload 0 q_X12_account_116 ls st z f E R
def q_X12_account_130 (ls : Ls) (st : List Value) (z : Zz) (f : Fm) (E : Ej) (R : Kr) : Prop := xret .int ls st z f E R
def q_X12_account_127 (ls : Ls) (st : List Value) (z : Zz) (f : Fm) (E : Ej) (R : Kr) : Prop := xget 1 6 q_X12_account_130 ls st z f E R
def q_X12_account_124 (ls : Ls) (st : List Value) (z : Zz) (f : Fm) (E : Ej) (R : Kr) : Prop := xget 11 1 q_X12_account_127 ls st z f E R
def q_X12_account_123 (ls : Ls) (st : List Value) (z : Zz) (f : Fm) (E : Ej) (R : Kr) : Prop := xaload 0 q_X12_account_124 ls st z f E R
def q_X12_account_138 (ls : Ls) (st : List Value) (z : Zz) (f : Fm) (E : Ej) (R : Kr) : Prop := xret .int ls st z f E R
def q_X12_account_135 (ls : Ls) (st : List Value) (z : Zz) (f : Fm) (E : Ej) (R : Kr) : Prop := xcall 1 2 Sp_X1_countRoutes 0 0 q_X12_account_138 ls st z f E R
def q_X12_account_132 (ls : Ls) (st : List Value) (z : Zz) (f : Fm) (E : Ej) (R : Kr) : Prop := xget 11 1 q_X12_account_135 ls st z f E R
def q_X12_account_131 (ls : Ls) (st : List Value) (z : Zz) (f : Fm) (E : Ej) (R : Kr) : Prop := xaload 0 q_X12_account_132 ls st z f E R
def q_X12_account_146 (ls : Ls) (st : List Value) (z : Zz) (f : Fm) (E : Ej) (R : Kr) : Prop := xret .int ls st z f E R
def q_X12_account_143 (ls : Ls) (st : List Value) (z : Zz) (f : Fm) (E : Ej) (R : Kr) : Prop := xget 1 8 q_X12_account_146 ls st z f E R
def q_X12_account_140 (ls : Ls) (st : List Value) (z : Zz) (f : Fm) (E : Ej) (R : Kr) : Prop := xget 11 1 q_X12_account_143 ls st z f E R
def q_X12_account_139 (ls : Ls) (st : List Value) (z : Zz) (f : Fm) (E : Ej) (R : Kr) : Prop := xaload 0 q_X12_account_140 ls st z f E R
def q_X12_account_154 (ls : Ls) (st : List Value) (z : Zz) (f : Fm) (E : Ej) (R : Kr) : Prop := xret .int ls st z f E R
def q_X12_account_151 (ls : Ls) (st : List Value) (z : Zz) (f : Fm) (E : Ej) (R : Kr) : Prop := xget 1 9 q_X12_account_154 ls st z f E R
def q_X12_account_148 (ls : Ls) (st : List Value) (z : Zz) (f : Fm) (E : Ej) (R : Kr) : Prop := xget 11 1 q_X12_account_151 ls st z f E R
def q_X12_account_147 (ls : Ls) (st : List Value) (z : Zz) (f : Fm) (E : Ej) (R : Kr) : Prop := xaload 0 q_X12_account_148 ls st z f E R
def q_X12_account_165 (ls : Ls) (st : List Value) (z : Zz) (f : Fm) (E : Ej) (R : Kr) : Prop := xret .int ls st z f E R
def q_X12_account_162 (ls : Ls) (st : List Value) (z : Zz) (f : Fm) (E : Ej) (R : Kr) : Prop := xget 4 5 q_X12_account_165 ls st z f E R
def q_X12_account_159 (ls : Ls) (st : List Value) (z : Zz) (f : Fm) (E : Ej) (R : Kr) : Prop := xget 1 3 q_X12_account_162 ls st z f E R
def q_X12_account_156 (ls : Ls) (st : List Value) (z : Zz) (f : Fm) (E : Ej) (R : Kr) : Prop := xget 11 1 q_X12_account_159 ls st z f E R
def q_X12_account_155 (ls : Ls) (st : List Value) (z : Zz) (f : Fm) (E : Ej) (R : Kr) : Prop := xaload 0 q_X12_account_156 ls st z f E R
def q_X12_account_180 (ls : Ls) (st : List Value) (z : Zz) (f : Fm) (E : Ej) (R : Kr) : Prop := xret .int ls st z f E R
def q_X12_account_177 (ls : Ls) (st : List Value) (z : Zz) (f : Fm) (E : Ej) (R : Kr) : Prop := xcall 2 5 Sp_X5_countThatAre 0 0 q_X12_account_180 ls st z f E R
def q_X12_account_176 (ls : Ls) (st : List Value) (z : Zz) (f : Fm) (E : Ej) (R : Kr) : Prop := xbin (fun x y => x - y) q_X12_account_177 ls st z f E R
def q_X12_account_174 (ls : Ls) (st : List Value) (z : Zz) (f : Fm) (E : Ej) (R : Kr) : Prop := xpush (.int (nI 10)) q_X12_account_176 ls st z f E R
def q_X12_account_173 (ls : Ls) (st : List Value) (z : Zz) (f : Fm) (E : Ej) (R : Kr) : Prop := xiload 1 q_X12_account_174 ls st z f E R
def q_X12_account_170 (ls : Ls) (st : List Value) (z : Zz) (f : Fm) (E : Ej) (R : Kr) : Prop := xget 1 3 q_X12_account_173 ls st z f E R
def q_X12_account_167 (ls : Ls) (st : List Value) (z : Zz) (f : Fm) (E : Ej) (R : Kr) : Prop := xget 11 1 q_X12_account_170 ls st z f E R
def q_X12_account_166 (ls : Ls) (st : List Value) (z : Zz) (f : Fm) (E : Ej) (R : Kr) : Prop := xaload 0 q_X12_account_167 ls st z f E R
def q_X12_account_191 (ls : Ls) (st : List Value) (z : Zz) (f : Fm) (E : Ej) (R : Kr) : Prop := xret .int ls st z f E R
def q_X12_account_188 (ls : Ls) (st : List Value) (z : Zz) (f : Fm) (E : Ej) (R : Kr) : Prop := xcall 1 5 Sp_X5_sumOfLeaps 0 0 q_X12_account_191 ls st z f E R
def q_X12_account_185 (ls : Ls) (st : List Value) (z : Zz) (f : Fm) (E : Ej) (R : Kr) : Prop := xget 1 3 q_X12_account_188 ls st z f E R
def q_X12_account_182 (ls : Ls) (st : List Value) (z : Zz) (f : Fm) (E : Ej) (R : Kr) : Prop := xget 11 1 q_X12_account_185 ls st z f E R
def q_X12_account_181 (ls : Ls) (st : List Value) (z : Zz) (f : Fm) (E : Ej) (R : Kr) : Prop := xaload 0 q_X12_account_182 ls st z f E R
def q_X12_account_199 (ls : Ls) (st : List Value) (z : Zz) (f : Fm) (E : Ej) (R : Kr) : Prop := xret .int ls st z f E R
def q_X12_account_196 (ls : Ls) (st : List Value) (z : Zz) (f : Fm) (E : Ej) (R : Kr) : Prop := xcall 1 1 Sp_J4_length_8abf5 0 0 q_X12_account_199 ls st z f E R
def q_X12_account_193 (ls : Ls) (st : List Value) (z : Zz) (f : Fm) (E : Ej) (R : Kr) : Prop := xget 11 8 q_X12_account_196 ls st z f E R
def q_X12_account_192 (ls : Ls) (st : List Value) (z : Zz) (f : Fm) (E : Ej) (R : Kr) : Prop := xaload 0 q_X12_account_193 ls st z f E R
def q_X12_account_207 (ls : Ls) (st : List Value) (z : Zz) (f : Fm) (E : Ej) (R : Kr) : Prop := xret .int ls st z f E R
def q_X12_account_204 (ls : Ls) (st : List Value) (z : Zz) (f : Fm) (E : Ej) (R : Kr) : Prop := xget 5 2 q_X12_account_207 ls st z f E R
def q_X12_account_201 (ls : Ls) (st : List Value) (z : Zz) (f : Fm) (E : Ej) (R : Kr) : Prop := xget 11 4 q_X12_account_204 ls st z f E R
def q_X12_account_200 (ls : Ls) (st : List Value) (z : Zz) (f : Fm) (E : Ej) (R : Kr) : Prop := xaload 0 q_X12_account_201 ls st z f E R
def q_X12_account_210 (ls : Ls) (st : List Value) (z : Zz) (f : Fm) (E : Ej) (R : Kr) : Prop := xret .int ls st z f E R
def q_X12_account_208 (ls : Ls) (st : List Value) (z : Zz) (f : Fm) (E : Ej) (R : Kr) : Prop := xpush (.int (-12)) q_X12_account_210 ls st z f E R
def q_X12_account_1 (ls : Ls) (st : List Value) (z : Zz) (f : Fm) (E : Ej) (R : Kr) : Prop := xtab (0) [q_X12_account_80, q_X12_account_88, q_X12_account_96, q_X12_account_107, q_X12_account_115, q_X12_account_123, q_X12_account_131, q_X12_account_139, q_X12_account_147, q_X12_account_155, q_X12_account_166, q_X12_account_166, q_X12_account_166, q_X12_account_181, q_X12_account_192, q_X12_account_200] q_X12_account_208 ls st z f E R
def q_X12_account_0 (ls : Ls) (st : List Value) (z : Zz) (f : Fm) (E : Ej) (R : Kr) : Prop := xiload 1 q_X12_account_1 ls st z f E R
set_option maxRecDepth 100000 in
theorem t_X12_account {s0 : State} {D : va_G} {ids : Nat → ClassId} {V : Nat → Nat} {l : Launch} {K : Kr} {E : Ej} (G : GG s0 D ids V) (X : EnX s0 D ids l RX12 cX12_account 2 (some .int) "account" rm_X12_account K E) : Sd E K 0 q_X12_account_0 := by
  have h87 : Sd E K 87 q_X12_account_87 := sd_ret X (by decide +kernel : decode cX12_account 87 = .ok (.ireturn, 1))
  have h84 : Sd E K 84 q_X12_account_84 := sd_get X (by decide +kernel : decode cX12_account 84 = .ok (.getfield 261, 3)) ok_X1 (Nat.le_of_ble_eq_true rfl) wd_177 h87
  have h81 : Sd E K 81 q_X12_account_81 := sd_get X (by decide +kernel : decode cX12_account 81 = .ok (.getfield 20, 3)) ok_X12 (Nat.le_of_ble_eq_true rfl) wd_375 h84
  have h80 : Sd E K 80 q_X12_account_80 := sd_aload_n X (by decide +kernel : decode cX12_account 80 = .ok (.aload_n 0, 1)) rfl h81
  have h95 : Sd E K 95 q_X12_account_95 := sd_ret X (by decide +kernel : decode cX12_account 95 = .ok (.ireturn, 1))
  have h92 : Sd E K 92 q_X12_account_92 := sd_get X (by decide +kernel : decode cX12_account 92 = .ok (.getfield 187, 3)) ok_X1 (Nat.le_of_ble_eq_true rfl) wd_166 h95
  have h89 : Sd E K 89 q_X12_account_89 := sd_get X (by decide +kernel : decode cX12_account 89 = .ok (.getfield 20, 3)) ok_X12 (Nat.le_of_ble_eq_true rfl) wd_375 h92
  have h88 : Sd E K 88 q_X12_account_88 := sd_aload_n X (by decide +kernel : decode cX12_account 88 = .ok (.aload_n 0, 1)) rfl h89
  have h106 : Sd E K 106 q_X12_account_106 := sd_ret X (by decide +kernel : decode cX12_account 106 = .ok (.ireturn, 1))
  have h103 : Sd E K 103 q_X12_account_103 := sd_get X (by decide +kernel : decode cX12_account 103 = .ok (.getfield 264, 3)) ok_X8 (Nat.le_of_ble_eq_true rfl) wd_80 h106
  have h100 : Sd E K 100 q_X12_account_100 := sd_get X (by decide +kernel : decode cX12_account 100 = .ok (.getfield 107, 3)) ok_X1 (Nat.le_of_ble_eq_true rfl) wd_152 h103
  have h97 : Sd E K 97 q_X12_account_97 := sd_get X (by decide +kernel : decode cX12_account 97 = .ok (.getfield 20, 3)) ok_X12 (Nat.le_of_ble_eq_true rfl) wd_375 h100
  have h96 : Sd E K 96 q_X12_account_96 := sd_aload_n X (by decide +kernel : decode cX12_account 96 = .ok (.aload_n 0, 1)) rfl h97
  have h114 : Sd E K 114 q_X12_account_114 := sd_ret X (by decide +kernel : decode cX12_account 114 = .ok (.ireturn, 1))
  have h111 : Sd E K 111 q_X12_account_111 := sd_callV (n := 0) (ci := 1) X (ct_X1_countSilent G) (by decide +kernel : decode cX12_account 111 = .ok (.invokevirtual 265, 3)) wd_725 wd_902 wd_723 wd_724 wd_26 (by decide +kernel) (Or.inl ⟨by decide, _, _, rfl⟩) ⟨Nat.le_of_ble_eq_true rfl, Nat.le_of_ble_eq_true rfl⟩ h114
  have h108 : Sd E K 108 q_X12_account_108 := sd_get X (by decide +kernel : decode cX12_account 108 = .ok (.getfield 20, 3)) ok_X12 (Nat.le_of_ble_eq_true rfl) wd_375 h111
  have h107 : Sd E K 107 q_X12_account_107 := sd_aload_n X (by decide +kernel : decode cX12_account 107 = .ok (.aload_n 0, 1)) rfl h108
  have h122 : Sd E K 122 q_X12_account_122 := sd_ret X (by decide +kernel : decode cX12_account 122 = .ok (.ireturn, 1))
  have h119 : Sd E K 119 q_X12_account_119 := sd_get X (by decide +kernel : decode cX12_account 119 = .ok (.getfield 268, 3)) ok_X1 (Nat.le_of_ble_eq_true rfl) wd_170 h122
  have h116 : Sd E K 116 q_X12_account_116 := sd_get X (by decide +kernel : decode cX12_account 116 = .ok (.getfield 20, 3)) ok_X12 (Nat.le_of_ble_eq_true rfl) wd_375 h119
  have h115 : Sd E K 115 q_X12_account_115 := sd_aload_n X (by decide +kernel : decode cX12_account 115 = .ok (.aload_n 0, 1)) rfl h116
  have h130 : Sd E K 130 q_X12_account_130 := sd_ret X (by decide +kernel : decode cX12_account 130 = .ok (.ireturn, 1))
  have h127 : Sd E K 127 q_X12_account_127 := sd_get X (by decide +kernel : decode cX12_account 127 = .ok (.getfield 271, 3)) ok_X1 (Nat.le_of_ble_eq_true rfl) wd_174 h130
  have h124 : Sd E K 124 q_X12_account_124 := sd_get X (by decide +kernel : decode cX12_account 124 = .ok (.getfield 20, 3)) ok_X12 (Nat.le_of_ble_eq_true rfl) wd_375 h127
  have h123 : Sd E K 123 q_X12_account_123 := sd_aload_n X (by decide +kernel : decode cX12_account 123 = .ok (.aload_n 0, 1)) rfl h124
  have h138 : Sd E K 138 q_X12_account_138 := sd_ret X (by decide +kernel : decode cX12_account 138 = .ok (.ireturn, 1))
  have h135 : Sd E K 135 q_X12_account_135 := sd_callV (n := 0) (ci := 1) X (ct_X1_countRoutes G) (by decide +kernel : decode cX12_account 135 = .ok (.invokevirtual 274, 3)) wd_906 wd_903 wd_904 wd_905 wd_26 (by decide +kernel) (Or.inl ⟨by decide, _, _, rfl⟩) ⟨Nat.le_of_ble_eq_true rfl, Nat.le_of_ble_eq_true rfl⟩ h138
  have h132 : Sd E K 132 q_X12_account_132 := sd_get X (by decide +kernel : decode cX12_account 132 = .ok (.getfield 20, 3)) ok_X12 (Nat.le_of_ble_eq_true rfl) wd_375 h135
  have h131 : Sd E K 131 q_X12_account_131 := sd_aload_n X (by decide +kernel : decode cX12_account 131 = .ok (.aload_n 0, 1)) rfl h132
  have h146 : Sd E K 146 q_X12_account_146 := sd_ret X (by decide +kernel : decode cX12_account 146 = .ok (.ireturn, 1))
  have h143 : Sd E K 143 q_X12_account_143 := sd_get X (by decide +kernel : decode cX12_account 143 = .ok (.getfield 277, 3)) ok_X1 (Nat.le_of_ble_eq_true rfl) wd_180 h146
  have h140 : Sd E K 140 q_X12_account_140 := sd_get X (by decide +kernel : decode cX12_account 140 = .ok (.getfield 20, 3)) ok_X12 (Nat.le_of_ble_eq_true rfl) wd_375 h143
  have h139 : Sd E K 139 q_X12_account_139 := sd_aload_n X (by decide +kernel : decode cX12_account 139 = .ok (.aload_n 0, 1)) rfl h140
  have h154 : Sd E K 154 q_X12_account_154 := sd_ret X (by decide +kernel : decode cX12_account 154 = .ok (.ireturn, 1))
  have h151 : Sd E K 151 q_X12_account_151 := sd_get X (by decide +kernel : decode cX12_account 151 = .ok (.getfield 280, 3)) ok_X1 (Nat.le_of_ble_eq_true rfl) wd_183 h154
  have h148 : Sd E K 148 q_X12_account_148 := sd_get X (by decide +kernel : decode cX12_account 148 = .ok (.getfield 20, 3)) ok_X12 (Nat.le_of_ble_eq_true rfl) wd_375 h151
  have h147 : Sd E K 147 q_X12_account_147 := sd_aload_n X (by decide +kernel : decode cX12_account 147 = .ok (.aload_n 0, 1)) rfl h148
  have h165 : Sd E K 165 q_X12_account_165 := sd_ret X (by decide +kernel : decode cX12_account 165 = .ok (.ireturn, 1))
  have h162 : Sd E K 162 q_X12_account_162 := sd_get X (by decide +kernel : decode cX12_account 162 = .ok (.getfield 216, 3)) ok_X5 (Nat.le_of_ble_eq_true rfl) wd_129 h165
  have h159 : Sd E K 159 q_X12_account_159 := sd_get X (by decide +kernel : decode cX12_account 159 = .ok (.getfield 129, 3)) ok_X1 (Nat.le_of_ble_eq_true rfl) wd_160 h162
  have h156 : Sd E K 156 q_X12_account_156 := sd_get X (by decide +kernel : decode cX12_account 156 = .ok (.getfield 20, 3)) ok_X12 (Nat.le_of_ble_eq_true rfl) wd_375 h159
  have h155 : Sd E K 155 q_X12_account_155 := sd_aload_n X (by decide +kernel : decode cX12_account 155 = .ok (.aload_n 0, 1)) rfl h156
  have h180 : Sd E K 180 q_X12_account_180 := sd_ret X (by decide +kernel : decode cX12_account 180 = .ok (.ireturn, 1))
  have h177 : Sd E K 177 q_X12_account_177 := sd_callV (n := 1) (ci := 4) X (ct_X5_countThatAre G) (by decide +kernel : decode cX12_account 177 = .ok (.invokevirtual 283, 3)) wd_915 wd_912 wd_913 wd_914 wd_29 (by decide +kernel) (Or.inl ⟨by decide, _, _, rfl⟩) ⟨Nat.le_of_ble_eq_true rfl, Nat.le_of_ble_eq_true rfl⟩ h180
  have h176 : Sd E K 176 q_X12_account_176 := sd_isub X (by decide +kernel : decode cX12_account 176 = .ok (.isub, 1)) h177
  have h174 : Sd E K 174 q_X12_account_174 := sd_bipush X (by decide +kernel : decode cX12_account 174 = .ok (.bipush 10, 2)) (by decide +kernel) h176
  have h173 : Sd E K 173 q_X12_account_173 := sd_iload_n X (by decide +kernel : decode cX12_account 173 = .ok (.iload_n 1, 1)) rfl h174
  have h170 : Sd E K 170 q_X12_account_170 := sd_get X (by decide +kernel : decode cX12_account 170 = .ok (.getfield 129, 3)) ok_X1 (Nat.le_of_ble_eq_true rfl) wd_160 h173
  have h167 : Sd E K 167 q_X12_account_167 := sd_get X (by decide +kernel : decode cX12_account 167 = .ok (.getfield 20, 3)) ok_X12 (Nat.le_of_ble_eq_true rfl) wd_375 h170
  have h166 : Sd E K 166 q_X12_account_166 := sd_aload_n X (by decide +kernel : decode cX12_account 166 = .ok (.aload_n 0, 1)) rfl h167
  have h191 : Sd E K 191 q_X12_account_191 := sd_ret X (by decide +kernel : decode cX12_account 191 = .ok (.ireturn, 1))
  have h188 : Sd E K 188 q_X12_account_188 := sd_callV (n := 0) (ci := 4) X (ct_X5_sumOfLeaps G) (by decide +kernel : decode cX12_account 188 = .ok (.invokevirtual 286, 3)) wd_919 wd_916 wd_917 wd_918 wd_29 (by decide +kernel) (Or.inl ⟨by decide, _, _, rfl⟩) ⟨Nat.le_of_ble_eq_true rfl, Nat.le_of_ble_eq_true rfl⟩ h191
  have h185 : Sd E K 185 q_X12_account_185 := sd_get X (by decide +kernel : decode cX12_account 185 = .ok (.getfield 129, 3)) ok_X1 (Nat.le_of_ble_eq_true rfl) wd_160 h188
  have h182 : Sd E K 182 q_X12_account_182 := sd_get X (by decide +kernel : decode cX12_account 182 = .ok (.getfield 20, 3)) ok_X12 (Nat.le_of_ble_eq_true rfl) wd_375 h185
  have h181 : Sd E K 181 q_X12_account_181 := sd_aload_n X (by decide +kernel : decode cX12_account 181 = .ok (.aload_n 0, 1)) rfl h182
  have h199 : Sd E K 199 q_X12_account_199 := sd_ret X (by decide +kernel : decode cX12_account 199 = .ok (.ireturn, 1))
  have h196 : Sd E K 196 q_X12_account_196 := sd_callV (n := 0) (ci := 0) X (ct_J4_length_8abf5 G) (by decide +kernel : decode cX12_account 196 = .ok (.invokevirtual 224, 3)) wd_655 wd_836 wd_653 wd_654 wd_36 (by decide +kernel) (Or.inl ⟨by decide, _, _, rfl⟩) ⟨Nat.le_of_ble_eq_true rfl, Nat.le_of_ble_eq_true rfl⟩ h199
  have h193 : Sd E K 193 q_X12_account_193 := sd_get X (by decide +kernel : decode cX12_account 193 = .ok (.getfield 62, 3)) ok_X12 (Nat.le_of_ble_eq_true rfl) wd_382 h196
  have h192 : Sd E K 192 q_X12_account_192 := sd_aload_n X (by decide +kernel : decode cX12_account 192 = .ok (.aload_n 0, 1)) rfl h193
  have h207 : Sd E K 207 q_X12_account_207 := sd_ret X (by decide +kernel : decode cX12_account 207 = .ok (.ireturn, 1))
  have h204 : Sd E K 204 q_X12_account_204 := sd_get X (by decide +kernel : decode cX12_account 204 = .ok (.getfield 289, 3)) ok_X6 (Nat.le_of_ble_eq_true rfl) wd_248 h207
  have h201 : Sd E K 201 q_X12_account_201 := sd_get X (by decide +kernel : decode cX12_account 201 = .ok (.getfield 33, 3)) ok_X12 (Nat.le_of_ble_eq_true rfl) wd_378 h204
  have h200 : Sd E K 200 q_X12_account_200 := sd_aload_n X (by decide +kernel : decode cX12_account 200 = .ok (.aload_n 0, 1)) rfl h201
  have h210 : Sd E K 210 q_X12_account_210 := sd_ret X (by decide +kernel : decode cX12_account 210 = .ok (.ireturn, 1))
  have h208 : Sd E K 208 q_X12_account_208 := sd_bipush X (by decide +kernel : decode cX12_account 208 = .ok (.bipush (-12), 2)) (by decide +kernel) h210
  have h1 : Sd E K 1 q_X12_account_1 := sd_tab (tgts := [80, 88, 96, 107, 115, 123, 131, 139, 147, 155, 166, 166, 166, 181, 192, 200]) X (by decide +kernel : decode cX12_account 1 = .ok (.tableswitch 207 0 15 #[79, 87, 95, 106, 114, 122, 130, 138, 146, 154, 165, 165, 165, 180, 191, 199], 79)) (by first | decide | rfl) rfl (by first | decide +kernel | rfl) (by first | decide | rfl) (fun i k t h1 h2 => by
    match i with
    | 0 => cases h1; cases h2; exact h80
    | 1 => cases h1; cases h2; exact h88
    | 2 => cases h1; cases h2; exact h96
    | 3 => cases h1; cases h2; exact h107
    | 4 => cases h1; cases h2; exact h115
    | 5 => cases h1; cases h2; exact h123
    | 6 => cases h1; cases h2; exact h131
    | 7 => cases h1; cases h2; exact h139
    | 8 => cases h1; cases h2; exact h147
    | 9 => cases h1; cases h2; exact h155
    | 10 => cases h1; cases h2; exact h166
    | 11 => cases h1; cases h2; exact h166
    | 12 => cases h1; cases h2; exact h166
    | 13 => cases h1; cases h2; exact h181
    | 14 => cases h1; cases h2; exact h192
    | 15 => cases h1; cases h2; exact h200
    | n + 16 => simp at h1) h208
  have h0 : Sd E K 0 q_X12_account_0 := sd_iload_n X (by decide +kernel : decode cX12_account 0 = .ok (.iload_n 1, 1)) rfl h1
  exact h0
set_option maxHeartbeats 4000000 in
set_option maxRecDepth 100000 in
theorem ct_X12_account {s0 : State} {D : va_G} {ids : Nat → ClassId} {V : Nat → Nat} {l : Launch} (G : GG s0 D ids V) : CT s0 D ids l yX12_account cX12_account 2 (some .int) rm_X12_account Sp_X12_account := CT.of (by decide +kernel) G.k (by
  rintro as z f K E ⟨b, w, M, rfl, hw, ⟨⟨hs, h0, hs2⟩, hC, hE⟩, hK⟩ X
  refine ⟨Nat.le_of_ble_eq_true rfl, by simp [Value.category], t_X12_account G X _ _ _ _ ?_⟩
  have hS := hE.1.1
  have hF := hE.2.1
  have hL := hE.2.2.1
  simp (disch := omega) only [q_X12_account_0, q_X12_account_1, q_X12_account_80, q_X12_account_81, q_X12_account_84, q_X12_account_87, q_X12_account_88, q_X12_account_89, q_X12_account_92, q_X12_account_95, q_X12_account_96, q_X12_account_97, q_X12_account_100, q_X12_account_103, q_X12_account_106, q_X12_account_107, q_X12_account_108, q_X12_account_111, q_X12_account_114, q_X12_account_115, q_X12_account_116, q_X12_account_119, q_X12_account_122, q_X12_account_123, q_X12_account_124, q_X12_account_127, q_X12_account_130, q_X12_account_131, q_X12_account_132, q_X12_account_135, q_X12_account_138, q_X12_account_139, q_X12_account_140, q_X12_account_143, q_X12_account_146, q_X12_account_147, q_X12_account_148, q_X12_account_151, q_X12_account_154, q_X12_account_155, q_X12_account_156, q_X12_account_159, q_X12_account_162, q_X12_account_165, q_X12_account_166, q_X12_account_167, q_X12_account_170, q_X12_account_173, q_X12_account_174, q_X12_account_176, q_X12_account_177, q_X12_account_180, q_X12_account_181, q_X12_account_182, q_X12_account_185, q_X12_account_188, q_X12_account_191, q_X12_account_192, q_X12_account_193, q_X12_account_196, q_X12_account_199, q_X12_account_200, q_X12_account_201, q_X12_account_204, q_X12_account_207, q_X12_account_208, q_X12_account_210, xpush, xiload, xaload, xlload, xfload, xdload, lkill, xistore, xastore, xfstore, xlstore, xdstore, xiinc, xbin, xdiv, xun, xlbin, xi2l, xi2f, xi2d, xlcmp, xfcmp, xdcmp, xfdiv, xddiv, c1, xdup, xpop, xdup_x1, xdup2, xif, xicmp, xtab, xtabL, xget, xput, xald, xast, xalen, xnew, xnewa, c1s, recvOk, xcall, kont, xret, xlret, xfret, xdret, xaret, xvret, xs, xnewq, xastq, xcopy, xcopyF, xobj, xmax, xmin, xdead, xpushq, xmna, ls0, List.map_cons, List.map_nil, List.length_cons, List.length_nil, List.replicate, List.append_nil, List.cons_append, List.nil_append, List.getElem?_cons_zero, List.getElem?_cons_succ, List.getElem?_nil, List.set_cons_zero, List.set_cons_succ, List.take_succ_cons, List.take_zero, List.drop_succ_cons, List.drop_zero, List.reverse_cons, List.reverse_nil, List.sum_cons, List.sum_nil, Value.category, Option.toList_some, Option.toList_none, Nat.reduceAdd, Nat.reduceSub, Nat.reduceLT, Nat.reduceLeDiff, Nat.zero_add, Nat.le_refl, true_and, and_true, Nat.sub_zero, Nat.zero_lt_succ, Nat.zero_le, Nat.not_lt_zero, Nat.reduceEqDiff, Nat.one_ne_zero, nI_toInt, Int.reduceEq, Int.reduceAdd, Int.reduceLT, Int.reduceLE, Int.cast_ofNat_Int, reduceIte, or_false, false_or, eq_self, or_true, true_or, or_self, nI_clamp, vp_in_nI, nI_ltI, nI_leI, nI_eq, nI_add, nI_zero9, nI_nlt0, nI_le0, nI_lt0, arG, va_rf, not_false_eq_true, not_true_eq_false, false_implies, true_implies, implies_true, ne_eq, okv_int, okv_z0, okv_z1, okv_zN, okv_ref, okv_arr, okv_null, vn_z0, vn_z1, vn_zN, nr_int, nr_z, va_up_self, up_fr, rw1_j, rw1_up, h0, hC.1, hC.2.2.1.1, hC.2.2.2.2.1, nI_toInt]
  trace_state
  sorry)
abbrev Sp_X12_reason : Spt := fun as z f K => ∃ (b : Nat) (r d : Int32) (x : Value), as = [.ref b, .int (nI 0)] ∧ oF f b ∧ f (b + 1) = some (.inr (10, [.ref (b + 1 + 1), x, .int r, .int d])) ∧ K (some (.int r)) z f
def rm_X12_reason : Room := { frames := 0, cells := 0, slots := 0, locals := 0 }
def q_X12_reason_21 (ls : Ls) (st : List Value) (z : Zz) (f : Fm) (E : Ej) (R : Kr) : Prop := xret .int ls st z f E R
def q_X12_reason_18 (ls : Ls) (st : List Value) (z : Zz) (f : Fm) (E : Ej) (R : Kr) : Prop := xget 10 2 q_X12_reason_21 ls st z f E R
def q_X12_reason_15 (ls : Ls) (st : List Value) (z : Zz) (f : Fm) (E : Ej) (R : Kr) : Prop := xget 11 0 q_X12_reason_18 ls st z f E R
def q_X12_reason_14 (ls : Ls) (st : List Value) (z : Zz) (f : Fm) (E : Ej) (R : Kr) : Prop := xaload 0 q_X12_reason_15 ls st z f E R
def q_X12_reason_8 (ls : Ls) (st : List Value) (z : Zz) (f : Fm) (E : Ej) (R : Kr) : Prop := xget 10 3 q_X12_reason_21 ls st z f E R
def q_X12_reason_5 (ls : Ls) (st : List Value) (z : Zz) (f : Fm) (E : Ej) (R : Kr) : Prop := xget 11 0 q_X12_reason_8 ls st z f E R
def q_X12_reason_4 (ls : Ls) (st : List Value) (z : Zz) (f : Fm) (E : Ej) (R : Kr) : Prop := xaload 0 q_X12_reason_5 ls st z f E R
def q_X12_reason_1 (ls : Ls) (st : List Value) (z : Zz) (f : Fm) (E : Ej) (R : Kr) : Prop := xif (fun x => x = 0) q_X12_reason_14 q_X12_reason_4 ls st z f E R
def q_X12_reason_0 (ls : Ls) (st : List Value) (z : Zz) (f : Fm) (E : Ej) (R : Kr) : Prop := xiload 1 q_X12_reason_1 ls st z f E R
set_option maxRecDepth 100000 in
theorem t_X12_reason {s0 : State} {D : va_G} {ids : Nat → ClassId} {V : Nat → Nat} {l : Launch} {K : Kr} {E : Ej} (G : GG s0 D ids V) (X : EnX s0 D ids l RX12 cX12_reason 2 (some .int) "reason" rm_X12_reason K E) : Sd E K 0 q_X12_reason_0 := by
  have h21 : Sd E K 21 q_X12_reason_21 := sd_ret X (by decide +kernel : decode cX12_reason 21 = .ok (.ireturn, 1))
  have h18 : Sd E K 18 q_X12_reason_18 := sd_get X (by decide +kernel : decode cX12_reason 18 = .ok (.getfield 258, 3)) ok_X11 (Nat.le_of_ble_eq_true rfl) wd_222 h21
  have h15 : Sd E K 15 q_X12_reason_15 := sd_get X (by decide +kernel : decode cX12_reason 15 = .ok (.getfield 10, 3)) ok_X12 (Nat.le_of_ble_eq_true rfl) wd_374 h18
  have h14 : Sd E K 14 q_X12_reason_14 := sd_aload_n X (by decide +kernel : decode cX12_reason 14 = .ok (.aload_n 0, 1)) rfl h15
  have h11 : Sd E K 11 q_X12_reason_21 := sd_goto X (by decide +kernel : decode cX12_reason 11 = .ok (.goto 10, 3)) (by decide) h21
  have h8 : Sd E K 8 q_X12_reason_8 := sd_get X (by decide +kernel : decode cX12_reason 8 = .ok (.getfield 255, 3)) ok_X11 (Nat.le_of_ble_eq_true rfl) wd_224 h11
  have h5 : Sd E K 5 q_X12_reason_5 := sd_get X (by decide +kernel : decode cX12_reason 5 = .ok (.getfield 10, 3)) ok_X12 (Nat.le_of_ble_eq_true rfl) wd_374 h8
  have h4 : Sd E K 4 q_X12_reason_4 := sd_aload_n X (by decide +kernel : decode cX12_reason 4 = .ok (.aload_n 0, 1)) rfl h5
  have h1 : Sd E K 1 q_X12_reason_1 := sd_if_eq X (by decide +kernel : decode cX12_reason 1 = .ok (.ifCond .eq 13, 3)) (by decide) h14 h4
  have h0 : Sd E K 0 q_X12_reason_0 := sd_iload_n X (by decide +kernel : decode cX12_reason 0 = .ok (.iload_n 1, 1)) rfl h1
  exact h0
set_option maxHeartbeats 4000000 in
set_option maxRecDepth 100000 in
theorem ct_X12_reason {s0 : State} {D : va_G} {ids : Nat → ClassId} {V : Nat → Nat} {l : Launch} (G : GG s0 D ids V) : CT s0 D ids l yX12_reason cX12_reason 2 (some .int) rm_X12_reason Sp_X12_reason := CT.of (by decide +kernel) G.k (by
  rintro as z f K E ⟨b, r, d, x, rfl, ⟨hs, h0, hs2⟩, h1, hK⟩ X
  refine ⟨Nat.le_of_ble_eq_true rfl, by simp [Value.category], t_X12_reason G X _ _ _ _ ?_⟩
  simp (disch := omega) only [q_X12_reason_0, q_X12_reason_1, q_X12_reason_4, q_X12_reason_5, q_X12_reason_8, q_X12_reason_14, q_X12_reason_15, q_X12_reason_18, q_X12_reason_21, xpush, xiload, xaload, xlload, xfload, xdload, lkill, xistore, xastore, xfstore, xlstore, xdstore, xiinc, xbin, xdiv, xun, xlbin, xi2l, xi2f, xi2d, xlcmp, xfcmp, xdcmp, xfdiv, xddiv, c1, xdup, xpop, xdup_x1, xdup2, xif, xicmp, xtab, xtabL, xget, xput, xald, xast, xalen, xnew, xnewa, c1s, recvOk, xcall, kont, xret, xlret, xfret, xdret, xaret, xvret, xs, xnewq, xastq, xcopy, xcopyF, xobj, xmax, xmin, xdead, xpushq, xmna, ls0, List.map_cons, List.map_nil, List.length_cons, List.length_nil, List.replicate, List.append_nil, List.cons_append, List.nil_append, List.getElem?_cons_zero, List.getElem?_cons_succ, List.getElem?_nil, List.set_cons_zero, List.set_cons_succ, List.take_succ_cons, List.take_zero, List.drop_succ_cons, List.drop_zero, List.reverse_cons, List.reverse_nil, List.sum_cons, List.sum_nil, Value.category, Option.toList_some, Option.toList_none, Nat.reduceAdd, Nat.reduceSub, Nat.reduceLT, Nat.reduceLeDiff, Nat.zero_add, Nat.le_refl, true_and, and_true, Nat.sub_zero, Nat.zero_lt_succ, Nat.zero_le, Nat.not_lt_zero, Nat.reduceEqDiff, Nat.one_ne_zero, nI_toInt, Int.reduceEq, Int.reduceAdd, Int.reduceLT, Int.reduceLE, Int.cast_ofNat_Int, reduceIte, or_false, false_or, eq_self, or_true, true_or, or_self, nI_clamp, vp_in_nI, nI_ltI, nI_leI, nI_eq, nI_add, nI_zero9, nI_nlt0, nI_le0, nI_lt0, arG, va_rf, not_false_eq_true, not_true_eq_false, false_implies, true_implies, implies_true, ne_eq, okv_int, okv_z0, okv_z1, okv_zN, okv_ref, okv_arr, okv_null, vn_z0, vn_z1, vn_zN, nr_int, nr_z, va_up_self, up_fr, rw1_j, rw1_up, h0, h1]
  exact hK)
abbrev Sp_X12_leaguesOrNothing : Spt := fun as z f K => ∃ (n : Nat), as = [.int (nI n)] ∧ n < 1048576 ∧ K (some (.int (if n = 1000 then -15 else nI n))) z f
def rm_X12_leaguesOrNothing : Room := { frames := 0, cells := 0, slots := 0, locals := 0 }
def q_X12_leaguesOrNothing_13 (ls : Ls) (st : List Value) (z : Zz) (f : Fm) (E : Ej) (R : Kr) : Prop := xret .int ls st z f E R
def q_X12_leaguesOrNothing_12 (ls : Ls) (st : List Value) (z : Zz) (f : Fm) (E : Ej) (R : Kr) : Prop := xiload 0 q_X12_leaguesOrNothing_13 ls st z f E R
def q_X12_leaguesOrNothing_7 (ls : Ls) (st : List Value) (z : Zz) (f : Fm) (E : Ej) (R : Kr) : Prop := xpush (.int (-15)) q_X12_leaguesOrNothing_13 ls st z f E R
def q_X12_leaguesOrNothing_4 (ls : Ls) (st : List Value) (z : Zz) (f : Fm) (E : Ej) (R : Kr) : Prop := xicmp (fun x y => ¬ x = y) q_X12_leaguesOrNothing_12 q_X12_leaguesOrNothing_7 ls st z f E R
def q_X12_leaguesOrNothing_1 (ls : Ls) (st : List Value) (z : Zz) (f : Fm) (E : Ej) (R : Kr) : Prop := xpush (.int (nI 1000)) q_X12_leaguesOrNothing_4 ls st z f E R
def q_X12_leaguesOrNothing_0 (ls : Ls) (st : List Value) (z : Zz) (f : Fm) (E : Ej) (R : Kr) : Prop := xiload 0 q_X12_leaguesOrNothing_1 ls st z f E R
set_option maxRecDepth 100000 in
theorem t_X12_leaguesOrNothing {s0 : State} {D : va_G} {ids : Nat → ClassId} {V : Nat → Nat} {l : Launch} {K : Kr} {E : Ej} (G : GG s0 D ids V) (X : EnX s0 D ids l RX12 cX12_leaguesOrNothing 1 (some .int) "leaguesOrNothing" rm_X12_leaguesOrNothing K E) : Sd E K 0 q_X12_leaguesOrNothing_0 := by
  have h13 : Sd E K 13 q_X12_leaguesOrNothing_13 := sd_ret X (by decide +kernel : decode cX12_leaguesOrNothing 13 = .ok (.ireturn, 1))
  have h12 : Sd E K 12 q_X12_leaguesOrNothing_12 := sd_iload_n X (by decide +kernel : decode cX12_leaguesOrNothing 12 = .ok (.iload_n 0, 1)) rfl h13
  have h9 : Sd E K 9 q_X12_leaguesOrNothing_13 := sd_goto X (by decide +kernel : decode cX12_leaguesOrNothing 9 = .ok (.goto 4, 3)) (by decide) h13
  have h7 : Sd E K 7 q_X12_leaguesOrNothing_7 := sd_bipush X (by decide +kernel : decode cX12_leaguesOrNothing 7 = .ok (.bipush (-15), 2)) (by decide +kernel) h9
  have h4 : Sd E K 4 q_X12_leaguesOrNothing_4 := sd_icmp_ne X (by decide +kernel : decode cX12_leaguesOrNothing 4 = .ok (.if_icmp .ne 8, 3)) (by decide) h12 h7
  have h1 : Sd E K 1 q_X12_leaguesOrNothing_1 := sd_sipush X (by decide +kernel : decode cX12_leaguesOrNothing 1 = .ok (.sipush 1000, 3)) (by decide +kernel) h4
  have h0 : Sd E K 0 q_X12_leaguesOrNothing_0 := sd_iload_n X (by decide +kernel : decode cX12_leaguesOrNothing 0 = .ok (.iload_n 0, 1)) rfl h1
  exact h0
set_option maxHeartbeats 4000000 in
set_option maxRecDepth 100000 in
theorem ct_X12_leaguesOrNothing {s0 : State} {D : va_G} {ids : Nat → ClassId} {V : Nat → Nat} {l : Launch} (G : GG s0 D ids V) : CT s0 D ids l yX12_leaguesOrNothing cX12_leaguesOrNothing 1 (some .int) rm_X12_leaguesOrNothing Sp_X12_leaguesOrNothing := CT.of (by decide +kernel) G.k (by
  rintro as z f K E ⟨n, rfl, hn, hK⟩ X
  refine ⟨Nat.le_of_ble_eq_true rfl, by simp [Value.category], t_X12_leaguesOrNothing G X _ _ _ _ ?_⟩
  simp (disch := omega) only [q_X12_leaguesOrNothing_0, q_X12_leaguesOrNothing_1, q_X12_leaguesOrNothing_4, q_X12_leaguesOrNothing_7, q_X12_leaguesOrNothing_12, q_X12_leaguesOrNothing_13, xpush, xiload, xaload, xlload, xfload, xdload, lkill, xistore, xastore, xfstore, xlstore, xdstore, xiinc, xbin, xdiv, xun, xlbin, xi2l, xi2f, xi2d, xlcmp, xfcmp, xdcmp, xfdiv, xddiv, c1, xdup, xpop, xdup_x1, xdup2, xif, xicmp, xtab, xtabL, xget, xput, xald, xast, xalen, xnew, xnewa, c1s, recvOk, xcall, kont, xret, xlret, xfret, xdret, xaret, xvret, xs, xnewq, xastq, xcopy, xcopyF, xobj, xmax, xmin, xdead, xpushq, xmna, ls0, List.map_cons, List.map_nil, List.length_cons, List.length_nil, List.replicate, List.append_nil, List.cons_append, List.nil_append, List.getElem?_cons_zero, List.getElem?_cons_succ, List.getElem?_nil, List.set_cons_zero, List.set_cons_succ, List.take_succ_cons, List.take_zero, List.drop_succ_cons, List.drop_zero, List.reverse_cons, List.reverse_nil, List.sum_cons, List.sum_nil, Value.category, Option.toList_some, Option.toList_none, Nat.reduceAdd, Nat.reduceSub, Nat.reduceLT, Nat.reduceLeDiff, Nat.zero_add, Nat.le_refl, true_and, and_true, Nat.sub_zero, Nat.zero_lt_succ, Nat.zero_le, Nat.not_lt_zero, Nat.reduceEqDiff, Nat.one_ne_zero, nI_toInt, Int.reduceEq, Int.reduceAdd, Int.reduceLT, Int.reduceLE, Int.cast_ofNat_Int, reduceIte, or_false, false_or, eq_self, or_true, true_or, or_self, nI_clamp, vp_in_nI, nI_ltI, nI_leI, nI_eq, nI_add, nI_zero9, nI_nlt0, nI_le0, nI_lt0, arG, va_rf, not_false_eq_true, not_true_eq_false, false_implies, true_implies, implies_true, ne_eq, okv_int, okv_z0, okv_z1, okv_zN, okv_ref, okv_arr, okv_null, vn_z0, vn_z1, vn_zN, nr_int, nr_z, va_up_self, up_fr, rw1_j, rw1_up]
  trace_state
  sorry)
abbrev Sp_X12_leaguesKnown : Spt := fun as z f K => ∃ (b i j : Nat) (M : Cm), as = [.ref b, .int (nI i), .int (nI j)] ∧ i < 8 ∧ j < 8 ∧ oA f b M ∧ K (some (.int (nI (if 0 < M 2 i j then M 2 i j else 1000)))) z f
def rm_X12_leaguesKnown : Room := { frames := 1, cells := 0, slots := 0, locals := 22 }
def q_X12_leaguesKnown_35 (ls : Ls) (st : List Value) (z : Zz) (f : Fm) (E : Ej) (R : Kr) : Prop := xret .int ls st z f E R
def q_X12_leaguesKnown_32 (ls : Ls) (st : List Value) (z : Zz) (f : Fm) (E : Ej) (R : Kr) : Prop := xpush (.int (nI 1000)) q_X12_leaguesKnown_35 ls st z f E R
def q_X12_leaguesKnown_28 (ls : Ls) (st : List Value) (z : Zz) (f : Fm) (E : Ej) (R : Kr) : Prop := xald 1 7 q_X12_leaguesKnown_35 ls st z f E R
def q_X12_leaguesKnown_27 (ls : Ls) (st : List Value) (z : Zz) (f : Fm) (E : Ej) (R : Kr) : Prop := xiload 2 q_X12_leaguesKnown_28 ls st z f E R
def q_X12_leaguesKnown_26 (ls : Ls) (st : List Value) (z : Zz) (f : Fm) (E : Ej) (R : Kr) : Prop := xald 4 4 q_X12_leaguesKnown_27 ls st z f E R
def q_X12_leaguesKnown_25 (ls : Ls) (st : List Value) (z : Zz) (f : Fm) (E : Ej) (R : Kr) : Prop := xiload 1 q_X12_leaguesKnown_26 ls st z f E R
def q_X12_leaguesKnown_22 (ls : Ls) (st : List Value) (z : Zz) (f : Fm) (E : Ej) (R : Kr) : Prop := xget 8 0 q_X12_leaguesKnown_25 ls st z f E R
def q_X12_leaguesKnown_19 (ls : Ls) (st : List Value) (z : Zz) (f : Fm) (E : Ej) (R : Kr) : Prop := xget 1 2 q_X12_leaguesKnown_22 ls st z f E R
def q_X12_leaguesKnown_16 (ls : Ls) (st : List Value) (z : Zz) (f : Fm) (E : Ej) (R : Kr) : Prop := xget 11 1 q_X12_leaguesKnown_19 ls st z f E R
def q_X12_leaguesKnown_15 (ls : Ls) (st : List Value) (z : Zz) (f : Fm) (E : Ej) (R : Kr) : Prop := xaload 0 q_X12_leaguesKnown_16 ls st z f E R
def q_X12_leaguesKnown_12 (ls : Ls) (st : List Value) (z : Zz) (f : Fm) (E : Ej) (R : Kr) : Prop := xif (fun x => x = 0) q_X12_leaguesKnown_32 q_X12_leaguesKnown_15 ls st z f E R
def q_X12_leaguesKnown_9 (ls : Ls) (st : List Value) (z : Zz) (f : Fm) (E : Ej) (R : Kr) : Prop := xcall 3 9 Sp_X9_isKnown 0 0 q_X12_leaguesKnown_12 ls st z f E R
def q_X12_leaguesKnown_8 (ls : Ls) (st : List Value) (z : Zz) (f : Fm) (E : Ej) (R : Kr) : Prop := xiload 2 q_X12_leaguesKnown_9 ls st z f E R
def q_X12_leaguesKnown_7 (ls : Ls) (st : List Value) (z : Zz) (f : Fm) (E : Ej) (R : Kr) : Prop := xiload 1 q_X12_leaguesKnown_8 ls st z f E R
def q_X12_leaguesKnown_4 (ls : Ls) (st : List Value) (z : Zz) (f : Fm) (E : Ej) (R : Kr) : Prop := xget 1 2 q_X12_leaguesKnown_7 ls st z f E R
def q_X12_leaguesKnown_1 (ls : Ls) (st : List Value) (z : Zz) (f : Fm) (E : Ej) (R : Kr) : Prop := xget 11 1 q_X12_leaguesKnown_4 ls st z f E R
def q_X12_leaguesKnown_0 (ls : Ls) (st : List Value) (z : Zz) (f : Fm) (E : Ej) (R : Kr) : Prop := xaload 0 q_X12_leaguesKnown_1 ls st z f E R
set_option maxRecDepth 100000 in
theorem t_X12_leaguesKnown {s0 : State} {D : va_G} {ids : Nat → ClassId} {V : Nat → Nat} {l : Launch} {K : Kr} {E : Ej} (G : GG s0 D ids V) (X : EnX s0 D ids l RX12 cX12_leaguesKnown 3 (some .int) "leaguesKnown" rm_X12_leaguesKnown K E) : Sd E K 0 q_X12_leaguesKnown_0 := by
  have h35 : Sd E K 35 q_X12_leaguesKnown_35 := sd_ret X (by decide +kernel : decode cX12_leaguesKnown 35 = .ok (.ireturn, 1))
  have h32 : Sd E K 32 q_X12_leaguesKnown_32 := sd_sipush X (by decide +kernel : decode cX12_leaguesKnown 32 = .ok (.sipush 1000, 3)) (by decide +kernel) h35
  have h29 : Sd E K 29 q_X12_leaguesKnown_35 := sd_goto X (by decide +kernel : decode cX12_leaguesKnown 29 = .ok (.goto 6, 3)) (by decide) h35
  have h28 : Sd E K 28 q_X12_leaguesKnown_28 := sd_iald X (by decide +kernel : decode cX12_leaguesKnown 28 = .ok (.iaload, 1)) h29
  have h27 : Sd E K 27 q_X12_leaguesKnown_27 := sd_iload_n X (by decide +kernel : decode cX12_leaguesKnown 27 = .ok (.iload_n 2, 1)) rfl h28
  have h26 : Sd E K 26 q_X12_leaguesKnown_26 := sd_aald X rfl (by decide +kernel : decode cX12_leaguesKnown 26 = .ok (.aaload, 1)) h27
  have h25 : Sd E K 25 q_X12_leaguesKnown_25 := sd_iload_n X (by decide +kernel : decode cX12_leaguesKnown 25 = .ok (.iload_n 1, 1)) rfl h26
  have h22 : Sd E K 22 q_X12_leaguesKnown_22 := sd_get X (by decide +kernel : decode cX12_leaguesKnown 22 = .ok (.getfield 322, 3)) ok_X9 (Nat.le_of_ble_eq_true rfl) wd_97 h25
  have h19 : Sd E K 19 q_X12_leaguesKnown_19 := sd_get X (by decide +kernel : decode cX12_leaguesKnown 19 = .ok (.getfield 116, 3)) ok_X1 (Nat.le_of_ble_eq_true rfl) wd_157 h22
  have h16 : Sd E K 16 q_X12_leaguesKnown_16 := sd_get X (by decide +kernel : decode cX12_leaguesKnown 16 = .ok (.getfield 20, 3)) ok_X12 (Nat.le_of_ble_eq_true rfl) wd_375 h19
  have h15 : Sd E K 15 q_X12_leaguesKnown_15 := sd_aload_n X (by decide +kernel : decode cX12_leaguesKnown 15 = .ok (.aload_n 0, 1)) rfl h16
  have h12 : Sd E K 12 q_X12_leaguesKnown_12 := sd_if_eq X (by decide +kernel : decode cX12_leaguesKnown 12 = .ok (.ifCond .eq 20, 3)) (by decide) h32 h15
  have h9 : Sd E K 9 q_X12_leaguesKnown_9 := sd_callV (n := 2) (ci := 8) X (ct_X9_isKnown G) (by decide +kernel : decode cX12_leaguesKnown 9 = .ok (.invokevirtual 148, 3)) wd_550 wd_931 wd_548 wd_549 wd_28 (by decide +kernel) (Or.inl ⟨by decide, _, _, rfl⟩) ⟨Nat.le_of_ble_eq_true rfl, Nat.le_of_ble_eq_true rfl⟩ h12
  have h8 : Sd E K 8 q_X12_leaguesKnown_8 := sd_iload_n X (by decide +kernel : decode cX12_leaguesKnown 8 = .ok (.iload_n 2, 1)) rfl h9
  have h7 : Sd E K 7 q_X12_leaguesKnown_7 := sd_iload_n X (by decide +kernel : decode cX12_leaguesKnown 7 = .ok (.iload_n 1, 1)) rfl h8
  have h4 : Sd E K 4 q_X12_leaguesKnown_4 := sd_get X (by decide +kernel : decode cX12_leaguesKnown 4 = .ok (.getfield 116, 3)) ok_X1 (Nat.le_of_ble_eq_true rfl) wd_157 h7
  have h1 : Sd E K 1 q_X12_leaguesKnown_1 := sd_get X (by decide +kernel : decode cX12_leaguesKnown 1 = .ok (.getfield 20, 3)) ok_X12 (Nat.le_of_ble_eq_true rfl) wd_375 h4
  have h0 : Sd E K 0 q_X12_leaguesKnown_0 := sd_aload_n X (by decide +kernel : decode cX12_leaguesKnown 0 = .ok (.aload_n 0, 1)) rfl h1
  exact h0
set_option maxHeartbeats 4000000 in
set_option maxRecDepth 100000 in
theorem ct_X12_leaguesKnown {s0 : State} {D : va_G} {ids : Nat → ClassId} {V : Nat → Nat} {l : Launch} (G : GG s0 D ids V) : CT s0 D ids l yX12_leaguesKnown cX12_leaguesKnown 3 (some .int) rm_X12_leaguesKnown Sp_X12_leaguesKnown := CT.of (by decide +kernel) G.k (by
  rintro as z f K E ⟨b, i, j, M, rfl, hi, hj, ⟨⟨hs, h0, hs2⟩, hC, hE⟩, hK⟩ X
  refine ⟨Nat.le_of_ble_eq_true rfl, by simp [Value.category], t_X12_leaguesKnown G X _ _ _ _ ?_⟩
  have h1 := hE.1.1.1 2 i j (by omega)
  obtain ⟨z1, z2, z3⟩ := id hC.2.2.2.1
  simp (disch := omega) only [q_X12_leaguesKnown_0, q_X12_leaguesKnown_1, q_X12_leaguesKnown_4, q_X12_leaguesKnown_7, q_X12_leaguesKnown_8, q_X12_leaguesKnown_9, q_X12_leaguesKnown_12, q_X12_leaguesKnown_15, q_X12_leaguesKnown_16, q_X12_leaguesKnown_19, q_X12_leaguesKnown_22, q_X12_leaguesKnown_25, q_X12_leaguesKnown_26, q_X12_leaguesKnown_27, q_X12_leaguesKnown_28, q_X12_leaguesKnown_32, q_X12_leaguesKnown_35, xpush, xiload, xaload, xlload, xfload, xdload, lkill, xistore, xastore, xfstore, xlstore, xdstore, xiinc, xbin, xdiv, xun, xlbin, xi2l, xi2f, xi2d, xlcmp, xfcmp, xdcmp, xfdiv, xddiv, c1, xdup, xpop, xdup_x1, xdup2, xif, xicmp, xtab, xtabL, xget, xput, xald, xast, xalen, xnew, xnewa, c1s, recvOk, xcall, kont, xret, xlret, xfret, xdret, xaret, xvret, xs, xnewq, xastq, xcopy, xcopyF, xobj, xmax, xmin, xdead, xpushq, xmna, ls0, List.map_cons, List.map_nil, List.length_cons, List.length_nil, List.replicate, List.append_nil, List.cons_append, List.nil_append, List.getElem?_cons_zero, List.getElem?_cons_succ, List.getElem?_nil, List.set_cons_zero, List.set_cons_succ, List.take_succ_cons, List.take_zero, List.drop_succ_cons, List.drop_zero, List.reverse_cons, List.reverse_nil, List.sum_cons, List.sum_nil, Value.category, Option.toList_some, Option.toList_none, Nat.reduceAdd, Nat.reduceSub, Nat.reduceLT, Nat.reduceLeDiff, Nat.zero_add, Nat.le_refl, true_and, and_true, Nat.sub_zero, Nat.zero_lt_succ, Nat.zero_le, Nat.not_lt_zero, Nat.reduceEqDiff, Nat.one_ne_zero, nI_toInt, Int.reduceEq, Int.reduceAdd, Int.reduceLT, Int.reduceLE, Int.cast_ofNat_Int, reduceIte, or_false, false_or, eq_self, or_true, true_or, or_self, nI_clamp, vp_in_nI, nI_ltI, nI_leI, nI_eq, nI_add, nI_zero9, nI_nlt0, nI_le0, nI_lt0, arG, va_rf, not_false_eq_true, not_true_eq_false, false_implies, true_implies, implies_true, ne_eq, okv_int, okv_z0, okv_z1, okv_zN, okv_ref, okv_arr, okv_null, vn_z0, vn_z1, vn_zN, nr_int, nr_z, va_up_self, up_fr, rw1_j, rw1_up, h0, hC.1, z1]
  refine ⟨_, i, j, M, rfl, hi, hj, h1, hC.2.2.2.1, ?_⟩
  by_cases q2 : 0 < M 2 i j
  · rw [if_pos q2] at hK ⊢
    simp (disch := omega) only [q_X12_leaguesKnown_0, q_X12_leaguesKnown_1, q_X12_leaguesKnown_4, q_X12_leaguesKnown_7, q_X12_leaguesKnown_8, q_X12_leaguesKnown_9, q_X12_leaguesKnown_12, q_X12_leaguesKnown_15, q_X12_leaguesKnown_16, q_X12_leaguesKnown_19, q_X12_leaguesKnown_22, q_X12_leaguesKnown_25, q_X12_leaguesKnown_26, q_X12_leaguesKnown_27, q_X12_leaguesKnown_28, q_X12_leaguesKnown_32, q_X12_leaguesKnown_35, xpush, xiload, xaload, xlload, xfload, xdload, lkill, xistore, xastore, xfstore, xlstore, xdstore, xiinc, xbin, xdiv, xun, xlbin, xi2l, xi2f, xi2d, xlcmp, xfcmp, xdcmp, xfdiv, xddiv, c1, xdup, xpop, xdup_x1, xdup2, xif, xicmp, xtab, xtabL, xget, xput, xald, xast, xalen, xnew, xnewa, c1s, recvOk, xcall, kont, xret, xlret, xfret, xdret, xaret, xvret, xs, xnewq, xastq, xcopy, xcopyF, xobj, xmax, xmin, xdead, xpushq, xmna, ls0, List.map_cons, List.map_nil, List.length_cons, List.length_nil, List.replicate, List.append_nil, List.cons_append, List.nil_append, List.getElem?_cons_zero, List.getElem?_cons_succ, List.getElem?_nil, List.set_cons_zero, List.set_cons_succ, List.take_succ_cons, List.take_zero, List.drop_succ_cons, List.drop_zero, List.reverse_cons, List.reverse_nil, List.sum_cons, List.sum_nil, Value.category, Option.toList_some, Option.toList_none, Nat.reduceAdd, Nat.reduceSub, Nat.reduceLT, Nat.reduceLeDiff, Nat.zero_add, Nat.le_refl, true_and, and_true, Nat.sub_zero, Nat.zero_lt_succ, Nat.zero_le, Nat.not_lt_zero, Nat.reduceEqDiff, Nat.one_ne_zero, nI_toInt, Int.reduceEq, Int.reduceAdd, Int.reduceLT, Int.reduceLE, Int.cast_ofNat_Int, reduceIte, or_false, false_or, eq_self, or_true, true_or, or_self, nI_clamp, vp_in_nI, nI_ltI, nI_leI, nI_eq, nI_add, nI_zero9, nI_nlt0, nI_le0, nI_lt0, arG, va_rf, not_false_eq_true, not_true_eq_false, false_implies, true_implies, implies_true, ne_eq, okv_int, okv_z0, okv_z1, okv_zN, okv_ref, okv_arr, okv_null, vn_z0, vn_z1, vn_zN, nr_int, nr_z, va_up_self, up_fr, rw1_j, rw1_up, h0, hC.1, z1, z2.1, z2.2 _ hi, hi]
    exact hK
  · rw [if_neg q2] at hK ⊢
    simp (disch := omega) only [q_X12_leaguesKnown_0, q_X12_leaguesKnown_1, q_X12_leaguesKnown_4, q_X12_leaguesKnown_7, q_X12_leaguesKnown_8, q_X12_leaguesKnown_9, q_X12_leaguesKnown_12, q_X12_leaguesKnown_15, q_X12_leaguesKnown_16, q_X12_leaguesKnown_19, q_X12_leaguesKnown_22, q_X12_leaguesKnown_25, q_X12_leaguesKnown_26, q_X12_leaguesKnown_27, q_X12_leaguesKnown_28, q_X12_leaguesKnown_32, q_X12_leaguesKnown_35, xpush, xiload, xaload, xlload, xfload, xdload, lkill, xistore, xastore, xfstore, xlstore, xdstore, xiinc, xbin, xdiv, xun, xlbin, xi2l, xi2f, xi2d, xlcmp, xfcmp, xdcmp, xfdiv, xddiv, c1, xdup, xpop, xdup_x1, xdup2, xif, xicmp, xtab, xtabL, xget, xput, xald, xast, xalen, xnew, xnewa, c1s, recvOk, xcall, kont, xret, xlret, xfret, xdret, xaret, xvret, xs, xnewq, xastq, xcopy, xcopyF, xobj, xmax, xmin, xdead, xpushq, xmna, ls0, List.map_cons, List.map_nil, List.length_cons, List.length_nil, List.replicate, List.append_nil, List.cons_append, List.nil_append, List.getElem?_cons_zero, List.getElem?_cons_succ, List.getElem?_nil, List.set_cons_zero, List.set_cons_succ, List.take_succ_cons, List.take_zero, List.drop_succ_cons, List.drop_zero, List.reverse_cons, List.reverse_nil, List.sum_cons, List.sum_nil, Value.category, Option.toList_some, Option.toList_none, Nat.reduceAdd, Nat.reduceSub, Nat.reduceLT, Nat.reduceLeDiff, Nat.zero_add, Nat.le_refl, true_and, and_true, Nat.sub_zero, Nat.zero_lt_succ, Nat.zero_le, Nat.not_lt_zero, Nat.reduceEqDiff, Nat.one_ne_zero, nI_toInt, Int.reduceEq, Int.reduceAdd, Int.reduceLT, Int.reduceLE, Int.cast_ofNat_Int, reduceIte, or_false, false_or, eq_self, or_true, true_or, or_self, nI_clamp, vp_in_nI, nI_ltI, nI_leI, nI_eq, nI_add, nI_zero9, nI_nlt0, nI_le0, nI_lt0, arG, va_rf, not_false_eq_true, not_true_eq_false, false_implies, true_implies, implies_true, ne_eq, okv_int, okv_z0, okv_z1, okv_zN, okv_ref, okv_arr, okv_null, vn_z0, vn_z1, vn_zN, nr_int, nr_z, va_up_self, up_fr, rw1_j, rw1_up]
    exact hK)
abbrev Sp_X12_isAhead : Spt := fun as z f K => ∃ (b i j : Nat) (M : Cm), as = [.ref b, .int (nI i), .int (nI j)] ∧ i < 8 ∧ j < 8 ∧ oA f b M ∧ (∀ i j, M 2 i j < 1000) ∧ K (some (.int (nI (if cntN (fun g => 0 < M 2 j g) 8 < cntN (fun g => 0 < M 2 i g) 8 ∨ (cntN (fun g => 0 < M 2 j g) 8 = cntN (fun g => 0 < M 2 i g) 8 ∧ (sumN (M 2 i) 8 < sumN (M 2 j) 8 ∨ (sumN (M 2 i) 8 = sumN (M 2 j) 8 ∧ i < j))) then 1 else 0)))) z f
def rm_X12_isAhead : Room := { frames := 2, cells := 0, slots := 0, locals := 45 }
def q_X12_isAhead_91 (ls : Ls) (st : List Value) (z : Zz) (f : Fm) (E : Ej) (R : Kr) : Prop := xret .boolean ls st z f E R
def q_X12_isAhead_90 (ls : Ls) (st : List Value) (z : Zz) (f : Fm) (E : Ej) (R : Kr) : Prop := xpush (.int (nI 0)) q_X12_isAhead_91 ls st z f E R
def q_X12_isAhead_86 (ls : Ls) (st : List Value) (z : Zz) (f : Fm) (E : Ej) (R : Kr) : Prop := xpush (.int (nI 1)) q_X12_isAhead_91 ls st z f E R
def q_X12_isAhead_83 (ls : Ls) (st : List Value) (z : Zz) (f : Fm) (E : Ej) (R : Kr) : Prop := xicmp (fun x y => y ≤ x) q_X12_isAhead_90 q_X12_isAhead_86 ls st z f E R
def q_X12_isAhead_82 (ls : Ls) (st : List Value) (z : Zz) (f : Fm) (E : Ej) (R : Kr) : Prop := xiload 2 q_X12_isAhead_83 ls st z f E R
def q_X12_isAhead_81 (ls : Ls) (st : List Value) (z : Zz) (f : Fm) (E : Ej) (R : Kr) : Prop := xiload 1 q_X12_isAhead_82 ls st z f E R
def q_X12_isAhead_77 (ls : Ls) (st : List Value) (z : Zz) (f : Fm) (E : Ej) (R : Kr) : Prop := xpush (.int (nI 0)) q_X12_isAhead_91 ls st z f E R
def q_X12_isAhead_73 (ls : Ls) (st : List Value) (z : Zz) (f : Fm) (E : Ej) (R : Kr) : Prop := xpush (.int (nI 1)) q_X12_isAhead_91 ls st z f E R
def q_X12_isAhead_70 (ls : Ls) (st : List Value) (z : Zz) (f : Fm) (E : Ej) (R : Kr) : Prop := xif (fun x => 0 ≤ x) q_X12_isAhead_77 q_X12_isAhead_73 ls st z f E R
def q_X12_isAhead_68 (ls : Ls) (st : List Value) (z : Zz) (f : Fm) (E : Ej) (R : Kr) : Prop := xiload 4 q_X12_isAhead_70 ls st z f E R
def q_X12_isAhead_65 (ls : Ls) (st : List Value) (z : Zz) (f : Fm) (E : Ej) (R : Kr) : Prop := xif (fun x => x = 0) q_X12_isAhead_81 q_X12_isAhead_68 ls st z f E R
def q_X12_isAhead_63 (ls : Ls) (st : List Value) (z : Zz) (f : Fm) (E : Ej) (R : Kr) : Prop := xiload 4 q_X12_isAhead_65 ls st z f E R
def q_X12_isAhead_61 (ls : Ls) (st : List Value) (z : Zz) (f : Fm) (E : Ej) (R : Kr) : Prop := xistore 4 q_X12_isAhead_63 ls st z f E R
def q_X12_isAhead_60 (ls : Ls) (st : List Value) (z : Zz) (f : Fm) (E : Ej) (R : Kr) : Prop := xbin (fun x y => x - y) q_X12_isAhead_61 ls st z f E R
def q_X12_isAhead_57 (ls : Ls) (st : List Value) (z : Zz) (f : Fm) (E : Ej) (R : Kr) : Prop := xcall 2 9 Sp_X9_sumOfLeagues 0 0 q_X12_isAhead_60 ls st z f E R
def q_X12_isAhead_56 (ls : Ls) (st : List Value) (z : Zz) (f : Fm) (E : Ej) (R : Kr) : Prop := xiload 2 q_X12_isAhead_57 ls st z f E R
def q_X12_isAhead_53 (ls : Ls) (st : List Value) (z : Zz) (f : Fm) (E : Ej) (R : Kr) : Prop := xget 1 2 q_X12_isAhead_56 ls st z f E R
def q_X12_isAhead_50 (ls : Ls) (st : List Value) (z : Zz) (f : Fm) (E : Ej) (R : Kr) : Prop := xget 11 1 q_X12_isAhead_53 ls st z f E R
def q_X12_isAhead_49 (ls : Ls) (st : List Value) (z : Zz) (f : Fm) (E : Ej) (R : Kr) : Prop := xaload 0 q_X12_isAhead_50 ls st z f E R
def q_X12_isAhead_46 (ls : Ls) (st : List Value) (z : Zz) (f : Fm) (E : Ej) (R : Kr) : Prop := xcall 2 9 Sp_X9_sumOfLeagues 0 0 q_X12_isAhead_49 ls st z f E R
def q_X12_isAhead_45 (ls : Ls) (st : List Value) (z : Zz) (f : Fm) (E : Ej) (R : Kr) : Prop := xiload 1 q_X12_isAhead_46 ls st z f E R
def q_X12_isAhead_42 (ls : Ls) (st : List Value) (z : Zz) (f : Fm) (E : Ej) (R : Kr) : Prop := xget 1 2 q_X12_isAhead_45 ls st z f E R
def q_X12_isAhead_39 (ls : Ls) (st : List Value) (z : Zz) (f : Fm) (E : Ej) (R : Kr) : Prop := xget 11 1 q_X12_isAhead_42 ls st z f E R
def q_X12_isAhead_38 (ls : Ls) (st : List Value) (z : Zz) (f : Fm) (E : Ej) (R : Kr) : Prop := xaload 0 q_X12_isAhead_39 ls st z f E R
def q_X12_isAhead_37 (ls : Ls) (st : List Value) (z : Zz) (f : Fm) (E : Ej) (R : Kr) : Prop := xret .boolean ls st z f E R
def q_X12_isAhead_36 (ls : Ls) (st : List Value) (z : Zz) (f : Fm) (E : Ej) (R : Kr) : Prop := xpush (.int (nI 0)) q_X12_isAhead_37 ls st z f E R
def q_X12_isAhead_32 (ls : Ls) (st : List Value) (z : Zz) (f : Fm) (E : Ej) (R : Kr) : Prop := xpush (.int (nI 1)) q_X12_isAhead_37 ls st z f E R
def q_X12_isAhead_29 (ls : Ls) (st : List Value) (z : Zz) (f : Fm) (E : Ej) (R : Kr) : Prop := xif (fun x => x ≤ 0) q_X12_isAhead_36 q_X12_isAhead_32 ls st z f E R
def q_X12_isAhead_28 (ls : Ls) (st : List Value) (z : Zz) (f : Fm) (E : Ej) (R : Kr) : Prop := xiload 3 q_X12_isAhead_29 ls st z f E R
def q_X12_isAhead_25 (ls : Ls) (st : List Value) (z : Zz) (f : Fm) (E : Ej) (R : Kr) : Prop := xif (fun x => x = 0) q_X12_isAhead_38 q_X12_isAhead_28 ls st z f E R
def q_X12_isAhead_24 (ls : Ls) (st : List Value) (z : Zz) (f : Fm) (E : Ej) (R : Kr) : Prop := xiload 3 q_X12_isAhead_25 ls st z f E R
def q_X12_isAhead_23 (ls : Ls) (st : List Value) (z : Zz) (f : Fm) (E : Ej) (R : Kr) : Prop := xistore 3 q_X12_isAhead_24 ls st z f E R
def q_X12_isAhead_22 (ls : Ls) (st : List Value) (z : Zz) (f : Fm) (E : Ej) (R : Kr) : Prop := xbin (fun x y => x - y) q_X12_isAhead_23 ls st z f E R
def q_X12_isAhead_19 (ls : Ls) (st : List Value) (z : Zz) (f : Fm) (E : Ej) (R : Kr) : Prop := xcall 2 9 Sp_X9_countOf 0 0 q_X12_isAhead_22 ls st z f E R
def q_X12_isAhead_18 (ls : Ls) (st : List Value) (z : Zz) (f : Fm) (E : Ej) (R : Kr) : Prop := xiload 2 q_X12_isAhead_19 ls st z f E R
def q_X12_isAhead_15 (ls : Ls) (st : List Value) (z : Zz) (f : Fm) (E : Ej) (R : Kr) : Prop := xget 1 2 q_X12_isAhead_18 ls st z f E R
def q_X12_isAhead_12 (ls : Ls) (st : List Value) (z : Zz) (f : Fm) (E : Ej) (R : Kr) : Prop := xget 11 1 q_X12_isAhead_15 ls st z f E R
def q_X12_isAhead_11 (ls : Ls) (st : List Value) (z : Zz) (f : Fm) (E : Ej) (R : Kr) : Prop := xaload 0 q_X12_isAhead_12 ls st z f E R
def q_X12_isAhead_8 (ls : Ls) (st : List Value) (z : Zz) (f : Fm) (E : Ej) (R : Kr) : Prop := xcall 2 9 Sp_X9_countOf 0 0 q_X12_isAhead_11 ls st z f E R
def q_X12_isAhead_7 (ls : Ls) (st : List Value) (z : Zz) (f : Fm) (E : Ej) (R : Kr) : Prop := xiload 1 q_X12_isAhead_8 ls st z f E R
def q_X12_isAhead_4 (ls : Ls) (st : List Value) (z : Zz) (f : Fm) (E : Ej) (R : Kr) : Prop := xget 1 2 q_X12_isAhead_7 ls st z f E R
def q_X12_isAhead_1 (ls : Ls) (st : List Value) (z : Zz) (f : Fm) (E : Ej) (R : Kr) : Prop := xget 11 1 q_X12_isAhead_4 ls st z f E R
def q_X12_isAhead_0 (ls : Ls) (st : List Value) (z : Zz) (f : Fm) (E : Ej) (R : Kr) : Prop := xaload 0 q_X12_isAhead_1 ls st z f E R
set_option maxRecDepth 100000 in
theorem t_X12_isAhead {s0 : State} {D : va_G} {ids : Nat → ClassId} {V : Nat → Nat} {l : Launch} {K : Kr} {E : Ej} (G : GG s0 D ids V) (X : EnX s0 D ids l RX12 cX12_isAhead 5 (some .boolean) "isAhead" rm_X12_isAhead K E) : Sd E K 0 q_X12_isAhead_0 := by
  have h91 : Sd E K 91 q_X12_isAhead_91 := sd_ret X (by decide +kernel : decode cX12_isAhead 91 = .ok (.ireturn, 1))
  have h90 : Sd E K 90 q_X12_isAhead_90 := sd_iconst X (by decide +kernel : decode cX12_isAhead 90 = .ok (.iconst 0, 1)) (by decide +kernel) h91
  have h87 : Sd E K 87 q_X12_isAhead_91 := sd_goto X (by decide +kernel : decode cX12_isAhead 87 = .ok (.goto 4, 3)) (by decide) h91
  have h86 : Sd E K 86 q_X12_isAhead_86 := sd_iconst X (by decide +kernel : decode cX12_isAhead 86 = .ok (.iconst 1, 1)) (by decide +kernel) h87
  have h83 : Sd E K 83 q_X12_isAhead_83 := sd_icmp_ge X (by decide +kernel : decode cX12_isAhead 83 = .ok (.if_icmp .ge 7, 3)) (by decide) h90 h86
  have h82 : Sd E K 82 q_X12_isAhead_82 := sd_iload_n X (by decide +kernel : decode cX12_isAhead 82 = .ok (.iload_n 2, 1)) rfl h83
  have h81 : Sd E K 81 q_X12_isAhead_81 := sd_iload_n X (by decide +kernel : decode cX12_isAhead 81 = .ok (.iload_n 1, 1)) rfl h82
  have h78 : Sd E K 78 q_X12_isAhead_91 := sd_goto X (by decide +kernel : decode cX12_isAhead 78 = .ok (.goto 13, 3)) (by decide) h91
  have h77 : Sd E K 77 q_X12_isAhead_77 := sd_iconst X (by decide +kernel : decode cX12_isAhead 77 = .ok (.iconst 0, 1)) (by decide +kernel) h78
  have h74 : Sd E K 74 q_X12_isAhead_91 := sd_goto X (by decide +kernel : decode cX12_isAhead 74 = .ok (.goto 17, 3)) (by decide) h91
  have h73 : Sd E K 73 q_X12_isAhead_73 := sd_iconst X (by decide +kernel : decode cX12_isAhead 73 = .ok (.iconst 1, 1)) (by decide +kernel) h74
  have h70 : Sd E K 70 q_X12_isAhead_70 := sd_if_ge X (by decide +kernel : decode cX12_isAhead 70 = .ok (.ifCond .ge 7, 3)) (by decide) h77 h73
  have h68 : Sd E K 68 q_X12_isAhead_68 := sd_iload X (by decide +kernel : decode cX12_isAhead 68 = .ok (.iload 4, 2)) h70
  have h65 : Sd E K 65 q_X12_isAhead_65 := sd_if_eq X (by decide +kernel : decode cX12_isAhead 65 = .ok (.ifCond .eq 16, 3)) (by decide) h81 h68
  have h63 : Sd E K 63 q_X12_isAhead_63 := sd_iload X (by decide +kernel : decode cX12_isAhead 63 = .ok (.iload 4, 2)) h65
  have h61 : Sd E K 61 q_X12_isAhead_61 := sd_istore X (by decide +kernel : decode cX12_isAhead 61 = .ok (.istore 4, 2)) h63
  have h60 : Sd E K 60 q_X12_isAhead_60 := sd_isub X (by decide +kernel : decode cX12_isAhead 60 = .ok (.isub, 1)) h61
  have h57 : Sd E K 57 q_X12_isAhead_57 := sd_callV (n := 1) (ci := 8) X (ct_X9_sumOfLeagues G) (by decide +kernel : decode cX12_isAhead 57 = .ok (.invokevirtual 296, 3)) wd_1017 wd_1014 wd_1015 wd_1016 wd_28 (by decide +kernel) (Or.inl ⟨by decide, _, _, rfl⟩) ⟨Nat.le_of_ble_eq_true rfl, Nat.le_of_ble_eq_true rfl⟩ h60
  have h56 : Sd E K 56 q_X12_isAhead_56 := sd_iload_n X (by decide +kernel : decode cX12_isAhead 56 = .ok (.iload_n 2, 1)) rfl h57
  have h53 : Sd E K 53 q_X12_isAhead_53 := sd_get X (by decide +kernel : decode cX12_isAhead 53 = .ok (.getfield 116, 3)) ok_X1 (Nat.le_of_ble_eq_true rfl) wd_157 h56
  have h50 : Sd E K 50 q_X12_isAhead_50 := sd_get X (by decide +kernel : decode cX12_isAhead 50 = .ok (.getfield 20, 3)) ok_X12 (Nat.le_of_ble_eq_true rfl) wd_375 h53
  have h49 : Sd E K 49 q_X12_isAhead_49 := sd_aload_n X (by decide +kernel : decode cX12_isAhead 49 = .ok (.aload_n 0, 1)) rfl h50
  have h46 : Sd E K 46 q_X12_isAhead_46 := sd_callV (n := 1) (ci := 8) X (ct_X9_sumOfLeagues G) (by decide +kernel : decode cX12_isAhead 46 = .ok (.invokevirtual 296, 3)) wd_1017 wd_1014 wd_1015 wd_1016 wd_28 (by decide +kernel) (Or.inl ⟨by decide, _, _, rfl⟩) ⟨Nat.le_of_ble_eq_true rfl, Nat.le_of_ble_eq_true rfl⟩ h49
  have h45 : Sd E K 45 q_X12_isAhead_45 := sd_iload_n X (by decide +kernel : decode cX12_isAhead 45 = .ok (.iload_n 1, 1)) rfl h46
  have h42 : Sd E K 42 q_X12_isAhead_42 := sd_get X (by decide +kernel : decode cX12_isAhead 42 = .ok (.getfield 116, 3)) ok_X1 (Nat.le_of_ble_eq_true rfl) wd_157 h45
  have h39 : Sd E K 39 q_X12_isAhead_39 := sd_get X (by decide +kernel : decode cX12_isAhead 39 = .ok (.getfield 20, 3)) ok_X12 (Nat.le_of_ble_eq_true rfl) wd_375 h42
  have h38 : Sd E K 38 q_X12_isAhead_38 := sd_aload_n X (by decide +kernel : decode cX12_isAhead 38 = .ok (.aload_n 0, 1)) rfl h39
  have h37 : Sd E K 37 q_X12_isAhead_37 := sd_ret X (by decide +kernel : decode cX12_isAhead 37 = .ok (.ireturn, 1))
  have h36 : Sd E K 36 q_X12_isAhead_36 := sd_iconst X (by decide +kernel : decode cX12_isAhead 36 = .ok (.iconst 0, 1)) (by decide +kernel) h37
  have h33 : Sd E K 33 q_X12_isAhead_37 := sd_goto X (by decide +kernel : decode cX12_isAhead 33 = .ok (.goto 4, 3)) (by decide) h37
  have h32 : Sd E K 32 q_X12_isAhead_32 := sd_iconst X (by decide +kernel : decode cX12_isAhead 32 = .ok (.iconst 1, 1)) (by decide +kernel) h33
  have h29 : Sd E K 29 q_X12_isAhead_29 := sd_if_le X (by decide +kernel : decode cX12_isAhead 29 = .ok (.ifCond .le 7, 3)) (by decide) h36 h32
  have h28 : Sd E K 28 q_X12_isAhead_28 := sd_iload_n X (by decide +kernel : decode cX12_isAhead 28 = .ok (.iload_n 3, 1)) rfl h29
  have h25 : Sd E K 25 q_X12_isAhead_25 := sd_if_eq X (by decide +kernel : decode cX12_isAhead 25 = .ok (.ifCond .eq 13, 3)) (by decide) h38 h28
  have h24 : Sd E K 24 q_X12_isAhead_24 := sd_iload_n X (by decide +kernel : decode cX12_isAhead 24 = .ok (.iload_n 3, 1)) rfl h25
  have h23 : Sd E K 23 q_X12_isAhead_23 := sd_istore_n X (by decide +kernel : decode cX12_isAhead 23 = .ok (.istore_n 3, 1)) rfl h24
  have h22 : Sd E K 22 q_X12_isAhead_22 := sd_isub X (by decide +kernel : decode cX12_isAhead 22 = .ok (.isub, 1)) h23
  have h19 : Sd E K 19 q_X12_isAhead_19 := sd_callV (n := 1) (ci := 8) X (ct_X9_countOf G) (by decide +kernel : decode cX12_isAhead 19 = .ok (.invokevirtual 120, 3)) wd_910 wd_946 wd_908 wd_909 wd_28 (by decide +kernel) (Or.inl ⟨by decide, _, _, rfl⟩) ⟨Nat.le_of_ble_eq_true rfl, Nat.le_of_ble_eq_true rfl⟩ h22
  have h18 : Sd E K 18 q_X12_isAhead_18 := sd_iload_n X (by decide +kernel : decode cX12_isAhead 18 = .ok (.iload_n 2, 1)) rfl h19
  have h15 : Sd E K 15 q_X12_isAhead_15 := sd_get X (by decide +kernel : decode cX12_isAhead 15 = .ok (.getfield 116, 3)) ok_X1 (Nat.le_of_ble_eq_true rfl) wd_157 h18
  have h12 : Sd E K 12 q_X12_isAhead_12 := sd_get X (by decide +kernel : decode cX12_isAhead 12 = .ok (.getfield 20, 3)) ok_X12 (Nat.le_of_ble_eq_true rfl) wd_375 h15
  have h11 : Sd E K 11 q_X12_isAhead_11 := sd_aload_n X (by decide +kernel : decode cX12_isAhead 11 = .ok (.aload_n 0, 1)) rfl h12
  have h8 : Sd E K 8 q_X12_isAhead_8 := sd_callV (n := 1) (ci := 8) X (ct_X9_countOf G) (by decide +kernel : decode cX12_isAhead 8 = .ok (.invokevirtual 120, 3)) wd_910 wd_946 wd_908 wd_909 wd_28 (by decide +kernel) (Or.inl ⟨by decide, _, _, rfl⟩) ⟨Nat.le_of_ble_eq_true rfl, Nat.le_of_ble_eq_true rfl⟩ h11
  have h7 : Sd E K 7 q_X12_isAhead_7 := sd_iload_n X (by decide +kernel : decode cX12_isAhead 7 = .ok (.iload_n 1, 1)) rfl h8
  have h4 : Sd E K 4 q_X12_isAhead_4 := sd_get X (by decide +kernel : decode cX12_isAhead 4 = .ok (.getfield 116, 3)) ok_X1 (Nat.le_of_ble_eq_true rfl) wd_157 h7
  have h1 : Sd E K 1 q_X12_isAhead_1 := sd_get X (by decide +kernel : decode cX12_isAhead 1 = .ok (.getfield 20, 3)) ok_X12 (Nat.le_of_ble_eq_true rfl) wd_375 h4
  have h0 : Sd E K 0 q_X12_isAhead_0 := sd_aload_n X (by decide +kernel : decode cX12_isAhead 0 = .ok (.aload_n 0, 1)) rfl h1
  exact h0
set_option maxHeartbeats 4000000 in
set_option maxRecDepth 100000 in
theorem ct_X12_isAhead {s0 : State} {D : va_G} {ids : Nat → ClassId} {V : Nat → Nat} {l : Launch} (G : GG s0 D ids V) : CT s0 D ids l yX12_isAhead cX12_isAhead 5 (some .boolean) rm_X12_isAhead Sp_X12_isAhead := CT.of (by decide +kernel) G.k (by
  rintro as z f K E ⟨b, i, j, M, rfl, hi, hj, ⟨⟨hs, h0, hs2⟩, hC, hE⟩, hL, hK⟩ X
  refine ⟨Nat.le_of_ble_eq_true rfl, by simp [Value.category], t_X12_isAhead G X _ _ _ _ ?_⟩
  have hS := hE.1.1
  simp (disch := omega) only [q_X12_isAhead_0, q_X12_isAhead_1, q_X12_isAhead_4, q_X12_isAhead_7, q_X12_isAhead_8, q_X12_isAhead_11, q_X12_isAhead_12, q_X12_isAhead_15, q_X12_isAhead_18, q_X12_isAhead_19, q_X12_isAhead_22, q_X12_isAhead_23, q_X12_isAhead_24, q_X12_isAhead_25, q_X12_isAhead_28, q_X12_isAhead_29, q_X12_isAhead_32, q_X12_isAhead_36, q_X12_isAhead_37, q_X12_isAhead_38, q_X12_isAhead_39, q_X12_isAhead_42, q_X12_isAhead_45, q_X12_isAhead_46, q_X12_isAhead_49, q_X12_isAhead_50, q_X12_isAhead_53, q_X12_isAhead_56, q_X12_isAhead_57, q_X12_isAhead_60, q_X12_isAhead_61, q_X12_isAhead_63, q_X12_isAhead_65, q_X12_isAhead_68, q_X12_isAhead_70, q_X12_isAhead_73, q_X12_isAhead_77, q_X12_isAhead_81, q_X12_isAhead_82, q_X12_isAhead_83, q_X12_isAhead_86, q_X12_isAhead_90, q_X12_isAhead_91, xpush, xiload, xaload, xlload, xfload, xdload, lkill, xistore, xastore, xfstore, xlstore, xdstore, xiinc, xbin, xdiv, xun, xlbin, xi2l, xi2f, xi2d, xlcmp, xfcmp, xdcmp, xfdiv, xddiv, c1, xdup, xpop, xdup_x1, xdup2, xif, xicmp, xtab, xtabL, xget, xput, xald, xast, xalen, xnew, xnewa, c1s, recvOk, xcall, kont, xret, xlret, xfret, xdret, xaret, xvret, xs, xnewq, xastq, xcopy, xcopyF, xobj, xmax, xmin, xdead, xpushq, xmna, ls0, List.map_cons, List.map_nil, List.length_cons, List.length_nil, List.replicate, List.append_nil, List.cons_append, List.nil_append, List.getElem?_cons_zero, List.getElem?_cons_succ, List.getElem?_nil, List.set_cons_zero, List.set_cons_succ, List.take_succ_cons, List.take_zero, List.drop_succ_cons, List.drop_zero, List.reverse_cons, List.reverse_nil, List.sum_cons, List.sum_nil, Value.category, Option.toList_some, Option.toList_none, Nat.reduceAdd, Nat.reduceSub, Nat.reduceLT, Nat.reduceLeDiff, Nat.zero_add, Nat.le_refl, true_and, and_true, Nat.sub_zero, Nat.zero_lt_succ, Nat.zero_le, Nat.not_lt_zero, Nat.reduceEqDiff, Nat.one_ne_zero, nI_toInt, Int.reduceEq, Int.reduceAdd, Int.reduceLT, Int.reduceLE, Int.cast_ofNat_Int, reduceIte, or_false, false_or, eq_self, or_true, true_or, or_self, nI_clamp, vp_in_nI, nI_ltI, nI_leI, nI_eq, nI_add, nI_zero9, nI_nlt0, nI_le0, nI_lt0, arG, va_rf, not_false_eq_true, not_true_eq_false, false_implies, true_implies, implies_true, ne_eq, okv_int, okv_z0, okv_z1, okv_zN, okv_ref, okv_arr, okv_null, vn_z0, vn_z1, vn_zN, nr_int, nr_z, va_up_self, up_fr, rw1_j, rw1_up, h0, hC.1, hC.2.2.2.1.1]
  refine ⟨_, i, M, rfl, hi, hS, hC.2.2.2.1, ?_⟩
  simp (disch := omega) only [q_X12_isAhead_0, q_X12_isAhead_1, q_X12_isAhead_4, q_X12_isAhead_7, q_X12_isAhead_8, q_X12_isAhead_11, q_X12_isAhead_12, q_X12_isAhead_15, q_X12_isAhead_18, q_X12_isAhead_19, q_X12_isAhead_22, q_X12_isAhead_23, q_X12_isAhead_24, q_X12_isAhead_25, q_X12_isAhead_28, q_X12_isAhead_29, q_X12_isAhead_32, q_X12_isAhead_36, q_X12_isAhead_37, q_X12_isAhead_38, q_X12_isAhead_39, q_X12_isAhead_42, q_X12_isAhead_45, q_X12_isAhead_46, q_X12_isAhead_49, q_X12_isAhead_50, q_X12_isAhead_53, q_X12_isAhead_56, q_X12_isAhead_57, q_X12_isAhead_60, q_X12_isAhead_61, q_X12_isAhead_63, q_X12_isAhead_65, q_X12_isAhead_68, q_X12_isAhead_70, q_X12_isAhead_73, q_X12_isAhead_77, q_X12_isAhead_81, q_X12_isAhead_82, q_X12_isAhead_83, q_X12_isAhead_86, q_X12_isAhead_90, q_X12_isAhead_91, xpush, xiload, xaload, xlload, xfload, xdload, lkill, xistore, xastore, xfstore, xlstore, xdstore, xiinc, xbin, xdiv, xun, xlbin, xi2l, xi2f, xi2d, xlcmp, xfcmp, xdcmp, xfdiv, xddiv, c1, xdup, xpop, xdup_x1, xdup2, xif, xicmp, xtab, xtabL, xget, xput, xald, xast, xalen, xnew, xnewa, c1s, recvOk, xcall, kont, xret, xlret, xfret, xdret, xaret, xvret, xs, xnewq, xastq, xcopy, xcopyF, xobj, xmax, xmin, xdead, xpushq, xmna, ls0, List.map_cons, List.map_nil, List.length_cons, List.length_nil, List.replicate, List.append_nil, List.cons_append, List.nil_append, List.getElem?_cons_zero, List.getElem?_cons_succ, List.getElem?_nil, List.set_cons_zero, List.set_cons_succ, List.take_succ_cons, List.take_zero, List.drop_succ_cons, List.drop_zero, List.reverse_cons, List.reverse_nil, List.sum_cons, List.sum_nil, Value.category, Option.toList_some, Option.toList_none, Nat.reduceAdd, Nat.reduceSub, Nat.reduceLT, Nat.reduceLeDiff, Nat.zero_add, Nat.le_refl, true_and, and_true, Nat.sub_zero, Nat.zero_lt_succ, Nat.zero_le, Nat.not_lt_zero, Nat.reduceEqDiff, Nat.one_ne_zero, nI_toInt, Int.reduceEq, Int.reduceAdd, Int.reduceLT, Int.reduceLE, Int.cast_ofNat_Int, reduceIte, or_false, false_or, eq_self, or_true, true_or, or_self, nI_clamp, vp_in_nI, nI_ltI, nI_leI, nI_eq, nI_add, nI_zero9, nI_nlt0, nI_le0, nI_lt0, arG, va_rf, not_false_eq_true, not_true_eq_false, false_implies, true_implies, implies_true, ne_eq, okv_int, okv_z0, okv_z1, okv_zN, okv_ref, okv_arr, okv_null, vn_z0, vn_z1, vn_zN, nr_int, nr_z, va_up_self, up_fr, rw1_j, rw1_up, h0, hC.1, hC.2.2.2.1.1]
  refine ⟨_, j, M, rfl, hj, hS, hC.2.2.2.1, ?_⟩
  simp (disch := omega) only [q_X12_isAhead_0, q_X12_isAhead_1, q_X12_isAhead_4, q_X12_isAhead_7, q_X12_isAhead_8, q_X12_isAhead_11, q_X12_isAhead_12, q_X12_isAhead_15, q_X12_isAhead_18, q_X12_isAhead_19, q_X12_isAhead_22, q_X12_isAhead_23, q_X12_isAhead_24, q_X12_isAhead_25, q_X12_isAhead_28, q_X12_isAhead_29, q_X12_isAhead_32, q_X12_isAhead_36, q_X12_isAhead_37, q_X12_isAhead_38, q_X12_isAhead_39, q_X12_isAhead_42, q_X12_isAhead_45, q_X12_isAhead_46, q_X12_isAhead_49, q_X12_isAhead_50, q_X12_isAhead_53, q_X12_isAhead_56, q_X12_isAhead_57, q_X12_isAhead_60, q_X12_isAhead_61, q_X12_isAhead_63, q_X12_isAhead_65, q_X12_isAhead_68, q_X12_isAhead_70, q_X12_isAhead_73, q_X12_isAhead_77, q_X12_isAhead_81, q_X12_isAhead_82, q_X12_isAhead_83, q_X12_isAhead_86, q_X12_isAhead_90, q_X12_isAhead_91, xpush, xiload, xaload, xlload, xfload, xdload, lkill, xistore, xastore, xfstore, xlstore, xdstore, xiinc, xbin, xdiv, xun, xlbin, xi2l, xi2f, xi2d, xlcmp, xfcmp, xdcmp, xfdiv, xddiv, c1, xdup, xpop, xdup_x1, xdup2, xif, xicmp, xtab, xtabL, xget, xput, xald, xast, xalen, xnew, xnewa, c1s, recvOk, xcall, kont, xret, xlret, xfret, xdret, xaret, xvret, xs, xnewq, xastq, xcopy, xcopyF, xobj, xmax, xmin, xdead, xpushq, xmna, ls0, List.map_cons, List.map_nil, List.length_cons, List.length_nil, List.replicate, List.append_nil, List.cons_append, List.nil_append, List.getElem?_cons_zero, List.getElem?_cons_succ, List.getElem?_nil, List.set_cons_zero, List.set_cons_succ, List.take_succ_cons, List.take_zero, List.drop_succ_cons, List.drop_zero, List.reverse_cons, List.reverse_nil, List.sum_cons, List.sum_nil, Value.category, Option.toList_some, Option.toList_none, Nat.reduceAdd, Nat.reduceSub, Nat.reduceLT, Nat.reduceLeDiff, Nat.zero_add, Nat.le_refl, true_and, and_true, Nat.sub_zero, Nat.zero_lt_succ, Nat.zero_le, Nat.not_lt_zero, Nat.reduceEqDiff, Nat.one_ne_zero, nI_toInt, Int.reduceEq, Int.reduceAdd, Int.reduceLT, Int.reduceLE, Int.cast_ofNat_Int, reduceIte, or_false, false_or, eq_self, or_true, true_or, or_self, nI_clamp, vp_in_nI, nI_ltI, nI_leI, nI_eq, nI_add, nI_zero9, nI_nlt0, nI_le0, nI_lt0, arG, va_rf, not_false_eq_true, not_true_eq_false, false_implies, true_implies, implies_true, ne_eq, okv_int, okv_z0, okv_z1, okv_zN, okv_ref, okv_arr, okv_null, vn_z0, vn_z1, vn_zN, nr_int, nr_z, va_up_self, up_fr, rw1_j, rw1_up, h0, hC.1, hC.2.2.2.1.1]
  trace_state
  sorry)
