/-! the whole -/
theorem K_of {s : State} {A : Array Value} (hts : ∀ w ∈ lw_tbl, w.before A s = true) : ∃ (D : va_G) (ids : Nat → ClassId), va_K D vwCl (tysL ids) s := by
  obtain ⟨c0, i0, k0⟩ := u_known (C := RJ4) (T := TJ4) (N := 4) (n := 4) hts iw_J4 (hts _ in_J4)
  obtain ⟨c1, i1, k1⟩ := u_known (C := RX1) (T := TX1) (N := 10) (n := 10) hts iw_X1 (hts _ in_X1)
  obtain ⟨c2, i2, k2⟩ := u_known (C := RX2) (T := TX2) (N := 3) (n := 3) hts iw_X2 (hts _ in_X2)
  obtain ⟨c3, i3, k3⟩ := u_known (C := RX3) (T := TX3) (N := 1) (n := 1) hts iw_X3 (hts _ in_X3)
  obtain ⟨c4, i4, k4⟩ := u_known (C := RX5) (T := TX5) (N := 6) (n := 6) hts iw_X5 (hts _ in_X5)
  obtain ⟨c5, i5, k5⟩ := u_known (C := RX6) (T := TX6) (N := 3) (n := 3) hts iw_X6 (hts _ in_X6)
  obtain ⟨c6, i6, k6⟩ := u_known (C := RX7) (T := TX7) (N := 7) (n := 7) hts iw_X7 (hts _ in_X7)
  obtain ⟨c7, i7, k7⟩ := u_known (C := RX8) (T := TX8) (N := 2) (n := 2) hts iw_X8 (hts _ in_X8)
  obtain ⟨c8, i8, k8⟩ := u_known (C := RX9) (T := TX9) (N := 4) (n := 4) hts iw_X9 (hts _ in_X9)
  obtain ⟨c9, i9, k9⟩ := u_known (C := RX10) (T := TX10) (N := 6) (n := 6) hts iw_X10 (hts _ in_X10)
  obtain ⟨c10, i10, k10⟩ := u_known (C := RX11) (T := TX11) (N := 4) (n := 4) hts iw_X11 (hts _ in_X11)
  obtain ⟨c11, i11, k11⟩ := u_known (C := RX12) (T := TX12) (N := 11) (n := 11) hts iw_X12 (hts _ in_X12)
  obtain ⟨a0, ka0, co0, f0, g0, h0⟩ := Cond.arrayClass_spec (hts _ gw_ac0)
  obtain ⟨a1, ka1, co1, f1, g1, h1⟩ := Cond.arrayClass_spec (hts _ gw_ac1)
  obtain ⟨a2, ka2, co2, f2, g2, h2⟩ := Cond.arrayClass_spec (hts _ gw_ac2)
  obtain ⟨co3, a3, ka3, e3, -, g3, h3, f3⟩ := Cond.arrayOver_spec (hts _ gw_aoC)
  obtain ⟨co4, a4, ka4, e4, g4, h4, f4⟩ := Cond.arrayOver_specA (hts _ gw_aoI)
  refine ⟨(fun k => match k with | 0 => c0 | 1 => c1 | 2 => c2 | 3 => c3 | 4 => c4 | 5 => c5 | 6 => c6 | 7 => c7 | 8 => c8 | 9 => c9 | 10 => c10 | _ => c11, fun k => match k with | 0 => i0 | 1 => i1 | 2 => i2 | 3 => i3 | 4 => i4 | 5 => i5 | 6 => i6 | 7 => i7 | 8 => i8 | 9 => i9 | 10 => i10 | _ => i11), fun k => match k with | 0 => a0 | 1 => a1 | 2 => a2 | 3 => a3 | _ => a4, fun k q hq => ?_, fun k q hq => ?_⟩
  · match k, hq with
    | 0, hq => cases hq; exact k0
    | 1, hq => cases hq; exact k1
    | 2, hq => cases hq; exact k2
    | 3, hq => cases hq; exact k3
    | 4, hq => cases hq; exact k4
    | 5, hq => cases hq; exact k5
    | 6, hq => cases hq; exact k6
    | 7, hq => cases hq; exact k7
    | 8, hq => cases hq; exact k8
    | 9, hq => cases hq; exact k9
    | 10, hq => cases hq; exact k10
    | 11, hq => cases hq; exact k11
    | k + 12, hq => simp [vwCl] at hq
  · match k, hq with
    | 0, hq => cases hq; exact ⟨fun N z => ⟨(fun k h => by cases h), ka0, g0, co0, h0⟩, f0⟩
    | 1, hq => cases hq; exact ⟨fun N z => ⟨(fun k h => by cases h), ka1, g1, co1, h1⟩, f1⟩
    | 2, hq => cases hq; exact ⟨fun N z => ⟨(fun k h => by cases h), ka2, g2, co2, h2⟩, f2⟩
    | 3, hq => cases hq; exact ⟨fun N z => ⟨(fun k h => by cases h), ka3, g3, co3, h3⟩, ka3, co3, g3, h3, e3, f3⟩
    | 4, hq => cases hq; exact ⟨fun N z => ⟨(fun k h => by cases h), ka4, g4, co4, h4⟩, f4⟩
    | k + 5, hq => simp [tysL] at hq
theorem ground_of {s : State} {b L : Nat} {xs : Nat → Int32} (hgv : (Cond.and given_1 narrow_1).before #[Value.ref b] s = true) (hts : ∀ w ∈ lw_tbl, w.before #[Value.ref b] s = true) (hX : va_X b L xs s s.heap) (hbl : b < s.heap.size) : ∃ (D : va_G) (ids : Nat → ClassId) (V : Nat → Nat) (f : Fm) (g : Nat → Int32), GG s D ids V ∧ csF V f s.heap.size ∧ f b = some (.inl (7, L, .inl g)) ∧ ∀ a ce, f a = some ce → cnO ce ∧ enRO s a ce := by
  have hA : ∀ a : Nat, a < s.heap.size → ¬ (fun q : Nat => s.heap.size ≤ q) a := fun a h => Nat.not_le.mpr h
  obtain ⟨D, ids, hK⟩ := K_of hts
  obtain ⟨f, hf1, hf2⟩ := pic_of s
  have hF : ∀ k : Nat, ∃ q : Nat × Nat, (q.1 < s.heap.size ∧ q.2 < s.heap.size) ∧ (k < 9 → (fmT k).eval #[Value.ref b] s none [] s = some (.ref q.1) ∧ enRO s q.1 (.inr (13, [.ref q.2, .int (nI 0)])) ∧ enRO s q.2 (.inl (8, (formL k).length, .inl (rw1 (fun j => (formL k).getD j 0))))) := fun k => by
    by_cases hk : k < 9
    · obtain ⟨q, h1, h2, h3⟩ := str_of (tm := fmT k) (L := formL k) (by have := (formL_ok k hk).2.1; omega) (nwm hgv (fm_0 k hk)) (nwm hgv (fm_1 k hk)) (nwm hgv (fm_2 k hk)) (nwm hgv (fm_3 k hk)) (fun j hj => nwm hgv (fm_4 k hk j hj))
      exact ⟨q, ⟨enRO_lt h2, enRO_lt h3⟩, fun _ => ⟨h1, h2, h3⟩⟩
    · exact ⟨(b, b), ⟨hbl, hbl⟩, fun h => absurd h hk⟩
  have hT : ∀ k : Nat, ∃ q : Nat × Nat, (q.1 < s.heap.size ∧ q.2 < s.heap.size) ∧ (k < 22 → (txT k).eval #[Value.ref b] s none [] s = some (.ref q.1) ∧ enRO s q.1 (.inr (13, [.ref q.2, .int (nI 0)])) ∧ enRO s q.2 (.inl (8, (textL k).length, .inl (rw1 (fun j => (textL k).getD j 0))))) := fun k => by
    by_cases hk : k < 22
    · obtain ⟨q, h1, h2, h3⟩ := str_of (tm := txT k) (L := textL k) (by have := (textL_ok k hk).1; omega) (nwm hgv (tx_0 k hk)) (nwm hgv (tx_1 k hk)) (nwm hgv (tx_2 k hk)) (nwm hgv (tx_3 k hk)) (fun j hj => nwm hgv (tx_4 k hk j hj))
      exact ⟨q, ⟨enRO_lt h2, enRO_lt h3⟩, fun _ => ⟨h1, h2, h3⟩⟩
    · exact ⟨(b, b), ⟨hbl, hbl⟩, fun h => absurd h hk⟩
  obtain ⟨aF, hF⟩ := Classical.axiomOfChoice hF
  obtain ⟨aT, hT⟩ := Classical.axiomOfChoice hT
  have hD : ∀ k : Nat, ∃ a : Nat, a < s.heap.size ∧ (k < 9 → (kdT k).eval #[Value.ref b] s none [] s = some (.ref a) ∧ enRO s a (.inr (12, [.ref (aF k).1, .int (nI k)]))) := fun k => by
    by_cases hk : k < 9
    · obtain ⟨a, h1, h2⟩ := kd_of (nwm hgv (kd_0 k hk)) (nwm hgv (kd_1 k hk)) (nwm hgv (kd_2 k hk)) ((hF k).2 hk).1
      exact ⟨a, enRO_lt h2, fun _ => ⟨h1, h2⟩⟩
    · exact ⟨b, hbl, fun h => absurd h hk⟩
  obtain ⟨aK, hD⟩ := Classical.axiomOfChoice hD
  obtain ⟨a3, v3, r3⟩ := arr_of (t := 5) (g := .inr (fun i => if i < 9 then some (aK i) else none)) (by omega) (nwm hgv kk_0) (nwm hgv kk_1) (fun j hj => (va_eqv (nwm hgv (kk_2 j hj)) ((hD j).2 hj).1).trans (by show _ = some (va_rf (if j < 9 then some (aK j) else none)); rw [if_pos hj]; rfl))
  obtain ⟨a5, v5, r5⟩ := arr_of (t := 6) (g := .inr (fun i => if i < 22 then some (aT i).1 else none)) (by omega) (nwm hgv tt_0) (nwm hgv tt_1) (fun j hj => (va_eqv (nwm hgv (tt_2 j hj)) ((hT j).2 hj).1).trans (by show _ = some (va_rf (if j < 22 then some (aT j).1 else none)); rw [if_pos hj]; rfl))
  obtain ⟨a4, v4, r4⟩ := arr_of (t := 7) (g := .inl (rw1 (fun j => if j < 8 then j + 1 else 0))) (by omega) (nwm hgv sw_0) (nwm hgv sw_1) (fun j hj => va_eqt (nwm hgv (sw_2 j hj)))
  obtain ⟨a0, v0, r0⟩ := arr_of (t := 8) (g := .inl (rw1 dgT)) (by omega) (nwm hgv dt_0) (nwm hgv dt_1) (fun j hj => va_eqt (nwm hgv (dt_2 j hj)))
  obtain ⟨a1, v1, r1⟩ := arr_of (t := 8) (g := .inl (rw1 dgO)) (by omega) (nwm hgv do9_0) (nwm hgv do9_1) (fun j hj => va_eqt (nwm hgv (do9_2 j hj)))
  have rb : enRO s b (.inl (7, L, .inl (fun j => if j < L then xs j else 0))) := by
    obtain ⟨scr, q1, q2, q3, q4, q5⟩ := hX
    refine ⟨⟨scr, q1, q2, q3, by omega, by rw [q4], fun j hj => ?_, hA b hbl⟩, scr, q1, q4⟩
    rw [q5 j hj]
    show some (Value.int (xs j)) = some (Value.int (if j < L then xs j else 0))
    rw [if_pos hj]
  have V0 : ∃ V : Nat → Nat, (∀ k, V k < s.heap.size) ∧ V 0 = a0 ∧ V 1 = a1 ∧ V 3 = a3 ∧ V 4 = a4 ∧ V 5 = a5 ∧ (∀ k, k < 9 → V (10 + k) = aK k ∧ V (20 + k) = (aF k).1 ∧ V (30 + k) = (aF k).2) ∧ ∀ k, k < 22 → V (40 + k) = (aT k).1 ∧ V (70 + k) = (aT k).2 := by
    refine ⟨fun i => if i = 0 then a0 else if i = 1 then a1 else if i = 3 then a3 else if i = 4 then a4 else if i = 5 then a5 else if i < 20 then aK (i - 10) else if i < 30 then (aF (i - 20)).1 else if i < 40 then (aF (i - 30)).2 else if i < 70 then (aT (i - 40)).1 else (aT (i - 70)).2, fun k => ?_, rfl, rfl, rfl, rfl, rfl, fun k hk => ?_, fun k hk => ?_⟩
    · have l0 := enRO_lt r0
      have l1 := enRO_lt r1
      have l3 := enRO_lt r3
      have l4 := enRO_lt r4
      have l5 := enRO_lt r5
      have l6 := (hD (k - 10)).1
      have l7 := (hF (k - 20)).1.1
      have l8 := (hF (k - 30)).1.2
      have l9 := (hT (k - 40)).1.1
      have l10 := (hT (k - 70)).1.2
      dsimp only
      repeat' split
      all_goals assumption
    · refine ⟨?_, ?_, ?_⟩
      · dsimp only
        rw [if_neg (by omega), if_neg (by omega), if_neg (by omega), if_neg (by omega), if_neg (by omega), if_pos (by omega), Nat.add_sub_cancel_left]
      · dsimp only
        rw [if_neg (by omega), if_neg (by omega), if_neg (by omega), if_neg (by omega), if_neg (by omega), if_neg (by omega), if_pos (by omega), Nat.add_sub_cancel_left]
      · dsimp only
        rw [if_neg (by omega), if_neg (by omega), if_neg (by omega), if_neg (by omega), if_neg (by omega), if_neg (by omega), if_neg (by omega), if_pos (by omega), Nat.add_sub_cancel_left]
    · refine ⟨?_, ?_⟩
      · dsimp only
        rw [if_neg (by omega), if_neg (by omega), if_neg (by omega), if_neg (by omega), if_neg (by omega), if_neg (by omega), if_neg (by omega), if_neg (by omega), if_pos (by omega), Nat.add_sub_cancel_left]
      · dsimp only
        rw [if_neg (by omega), if_neg (by omega), if_neg (by omega), if_neg (by omega), if_neg (by omega), if_neg (by omega), if_neg (by omega), if_neg (by omega), if_neg (by omega), Nat.add_sub_cancel_left]
  obtain ⟨V, hV, e0, e1, e3, e4, e5, eK, eT⟩ := V0
  have z0 : ∀ {L : List Nat}, L.length < 100 → cnO (.inl (8, L.length, .inl (rw1 (fun j => L.getD j 0)))) := fun {L} hL => Or.inr ⟨rfl, Or.inr ⟨by omega, fun j hj => by
    show nI (L.getD j 0) = 0
    rw [List.getD_eq_getElem?_getD, List.getElem?_eq_none hj]
    rfl⟩⟩
  have hAt : ∀ {L : List Nat} {a v : Nat}, L.length < 100 → enRO s a (.inr (13, [.ref v, .int (nI 0)])) → enRO s v (.inl (8, L.length, .inl (rw1 (fun j => L.getD j 0)))) → isSv f a v L := fun {L a v} hL h1 h2 => ⟨hf2 _ _ ⟨Or.inr rfl, v, nI 0, rfl⟩ h1, hf2 _ _ (z0 hL) h2⟩
  refine ⟨D, ids, V, f, _, ⟨hK, va_AO.of (hts _ gw_aoC), hts _ gw_aoI, fun w hw => va_Nw.of (gw_nest w hw).2 (hts _ (gw_nest w hw).1), ?_⟩, ⟨hV, ⟨?_, ?_⟩, ?_, ?_, ?_, fun k hk => ?_, fun k hk => ?_⟩, hf2 _ _ (Or.inl ⟨rfl, fun j hj => if_neg (by omega)⟩) rb, hf1⟩
  · rw [stL, e0, e1, e3, e4, e5, (eK 0 (by omega)).1]
    have sel := fun (y : MethodName) (h0 : (⟨"java/lang/AbstractStringBuilder", "isLatin1", "()Z"⟩ : MethodName).cls = y.cls) hp hi hy => jk_sel (C := "java/lang/StringBuilder") (x := ⟨"java/lang/AbstractStringBuilder", "isLatin1", "()Z"⟩) (y := y) h0 (hts _ gw_sel.1) hp hi hy
    exact ⟨va_Zof (hts _ gw_l0.1) (hts _ gw_l0.2) (va_eqi (nwm hgv cs_0)) hA, va_Zof (hts _ gw_l1.1) (hts _ gw_l1.2.2) v0 hA, va_Zof (hts _ gw_l1.2.1) (hts _ gw_l1.2.2) v1 hA, va_Zof (hts _ gw_l2.1) (hts _ gw_l2.2) ((hD 0).2 (by omega)).1 hA, va_Zof (hts _ gw_l3.1) (hts _ gw_l3.2) v3 hA, va_Zof (hts _ gw_l4.1) (hts _ gw_l4.2) v4 hA, va_Zof (hts _ gw_l5.1) (hts _ gw_l5.2) v5 hA, va_Zqof (hts _ gw_l6.1) (hts _ gw_l6.2) (nwm hgv sf_0) hA, va_Nw.of rfl (sel _ rfl (hts _ gw_sel.2.1) (hts _ gw_sel.2.2.1) ⟨by decide, by decide⟩), va_Nw.of rfl (sel _ rfl (hts _ gw_sel.2.2.2.1) (hts _ gw_sel.2.2.2.2) ⟨by decide, by decide⟩)⟩
  · rw [e0]
    exact hf2 _ _ (Or.inr ⟨rfl, Or.inl ⟨rfl, Or.inl rfl⟩⟩) r0
  · rw [e1]
    exact hf2 _ _ (Or.inr ⟨rfl, Or.inl ⟨rfl, Or.inr rfl⟩⟩) r1
  · rw [e3]
    refine (hf2 _ _ (show cnO (.inl (5, 9, .inr (fun i => if i < 9 then some (aK i) else none))) from ⟨Or.inl rfl, fun j hj => if_neg (by omega)⟩) r3).trans ?_
    refine congrArg some (congrArg Sum.inl (congrArg (Prod.mk 5) (congrArg (Prod.mk 9) (congrArg Sum.inr (funext fun i => ?_)))))
    by_cases q : i < 9
    · rw [if_pos q, if_pos q, (eK i q).1]
    · rw [if_neg q, if_neg q]
  · rw [e4]
    refine hf2 _ _ (Or.inl ⟨rfl, fun j hj => ?_⟩) r4
    show nI (if j < 8 then j + 1 else 0) = 0
    rw [if_neg (by omega)]
    rfl
  · rw [e5]
    refine (hf2 _ _ (show cnO (.inl (6, 22, .inr (fun i => if i < 22 then some (aT i).1 else none))) from ⟨Or.inr rfl, fun j hj => if_neg (by omega)⟩) r5).trans ?_
    refine congrArg some (congrArg Sum.inl (congrArg (Prod.mk 6) (congrArg (Prod.mk 22) (congrArg Sum.inr (funext fun i => ?_)))))
    by_cases q : i < 22
    · rw [if_pos q, if_pos q, (eT i q).1]
    · rw [if_neg q, if_neg q]
  · obtain ⟨w1, w2, w3⟩ := eK k hk
    rw [w1, w2, w3]
    obtain ⟨f1, f2, f3⟩ := (hF k).2 hk
    exact ⟨hf2 _ _ ⟨Or.inl rfl, _, _, rfl⟩ ((hD k).2 hk).2, hAt (by have := (formL_ok k hk).2.1; omega) f2 f3⟩
  · obtain ⟨w1, w2⟩ := eT k hk
    rw [w1, w2]
    obtain ⟨f1, f2, f3⟩ := (hT k).2 hk
    exact hAt (by have := (textL_ok k hk).1; omega) f2 f3
