/-! the country's changes keep it: roads -/
theorem joinM_1 {M : Cm} {i j n a b : Nat} : joinM M i j n 1 a b = if a = j ∧ b = i then n else if a = i ∧ b = j then n else M 1 a b := by
  unfold joinM
  rw [mup_at, if_neg (by omega), mup_at]
  by_cases q : a = j ∧ b = i
  · rw [if_pos ⟨rfl, q⟩, if_pos q]
  · rw [if_neg (by omega), if_neg q, mup_at]
    by_cases q2 : a = i ∧ b = j
    · rw [if_pos ⟨rfl, q2⟩, if_pos q2]
    · rw [if_neg (by omega), if_neg q2]
theorem Inv.join {B i j n : Nat} {M : Cm} (h : Inv B M) (hi : i < M 11 0 2) (hj : j < M 11 0 2) (hij : i ≠ j) (h0 : M 1 i j = 0) (hn : 0 < n) (hn2 : n ≤ 15) (hc : M 11 0 0 < 16) : Inv B (joinM M i j n) := by
  have hF := h.1.2.1
  obtain ⟨r1, r2, r3, r4, r5⟩ := h.2.1
  have h0' : M 1 j i = 0 := by
    rw [r1]
    exact h0
  have et : ∀ t, t ≠ 1 → t ≠ 11 → joinM M i j n t = M t := fun t a b => joinM_t a b
  have e0 : ∀ k, k ≠ 0 → joinM M i j n 11 0 k = M 11 0 k := fun k hk => joinM_11 hk
  have ec : joinM M i j n 11 0 0 = M 11 0 0 + 1 := by
    unfold joinM
    rw [mup_at, if_pos (by omega)]
  have hs : sm (joinM M i j n) := ((h.1.1.1.up (by omega)).up (by omega)).up (by omega)
  have ge : ∀ a b, 0 < M 1 a b → joinM M i j n 1 a b = M 1 a b := fun a b hp => by
    rw [joinM_1]
    by_cases q : a = j ∧ b = i
    · obtain ⟨rfl, rfl⟩ := q
      omega
    · rw [if_neg q]
      by_cases q2 : a = i ∧ b = j
      · obtain ⟨rfl, rfl⟩ := q2
        omega
      · rw [if_neg q2]
  refine ⟨⟨h.1.1.eqv hs (et 3 (by omega) (by omega)) (et 5 (by omega) (by omega)), by rw [e0 2 (by omega)]; exact hF, h.1.2.2.eqv (e0 1 (by omega)) (fun t a b => et t (by omega) (by omega))⟩, ⟨fun a b => ?_, fun a b => ?_, fun a => ?_, fun a b ha => ?_, ?_⟩, fun a b => ?_, fun k hk => ?_, by rw [e0 4 (by omega)]; exact h.2.2.2.2.1, by rw [e0 5 (by omega)]; exact h.2.2.2.2.2⟩
  · rw [joinM_1, joinM_1, r1 a b]
    repeat' split
    all_goals first | rfl | omega
  · rw [joinM_1]
    have := r2 a b
    repeat' split
    all_goals omega
  · rw [joinM_1, if_neg (by omega), if_neg (by omega)]
    exact r3 a
  · rw [e0 2 (by omega)] at ha
    rw [joinM_1, if_neg (by omega), if_neg (by omega)]
    exact r4 a b ha
  · rw [ec]
    have dI : ∀ x y, x ≠ y → (x = i ∧ y = j ∨ x = j ∧ y = i) → degN (joinM M i j n) x = degN M x + 1 := fun x y hxy hx => by
      have hA : ∀ b, b ≠ y → (0 < joinM M i j n 1 x b ↔ 0 < M 1 x b) := fun b hb => by
        rw [joinM_1, if_neg (by omega), if_neg (by omega)]
      have hB : 0 < joinM M i j n 1 x y := by
        rw [joinM_1]
        repeat' split
        all_goals omega
      have hC : ¬ 0 < M 1 x y := by
        rcases hx with ⟨rfl, rfl⟩ | ⟨rfl, rfl⟩ <;> omega
      have hy : y < 8 := by omega
      have key := cntN_one (p := fun b => 0 < M 1 x b) (q := fun b => 0 < joinM M i j n 1 x b) (x := y) hA hB hC 8
      rw [if_pos hy] at key
      exact key
    have := sumN_two (g := degN M) (g' := degN (joinM M i j n)) hij (fun k hk hk2 => ?_) (dI i j hij (Or.inl ⟨rfl, rfl⟩)) (dI j i (fun e => hij e.symm) (Or.inr ⟨rfl, rfl⟩)) 8
    · rw [this, r5, if_pos (by omega), if_pos (by omega)]
      omega
    · unfold degN
      refine cntN_cong 8 (fun b hb => ?_)
      rw [joinM_1, if_neg (by omega), if_neg (by omega)]
  · have := h.2.2.1 a b
    unfold rtc at this ⊢
    rw [et 2 (by omega) (by omega), et 3 (by omega) (by omega), et 4 (by omega) (by omega), e0 2 (by omega)]
    refine ⟨this.1, fun hp => ?_⟩
    have := this.2 hp
    rw [ge a _ (by omega)]
    exact this
  · rw [e0 1 (by omega)] at hk
    have := h.2.2.2.1 k hk
    unfold ltc at this ⊢
    rw [et 6 (by omega) (by omega), et 7 (by omega) (by omega), et 8 (by omega) (by omega), et 9 (by omega) (by omega), et 10 (by omega) (by omega), e0 2 (by omega)]
    exact this
theorem tk_at {M : Cm} {i j n d s a b : Nat} : tk M i j n d s 2 a b = (if a = i ∧ b = j then d else M 2 a b) ∧ tk M i j n d s 3 a b = (if a = i ∧ b = j then n else M 3 a b) ∧ tk M i j n d s 4 a b = (if a = i ∧ b = j then s else M 4 a b) ∧ tk M i j n d s 5 a b = (if a = i ∧ b = j then 0 else M 5 a b) := by
  unfold tk
  simp [mup_at]
theorem los_at {M : Cm} {i j a b : Nat} : los M i j 2 a b = (if a = i ∧ b = j then 0 else M 2 a b) ∧ los M i j 3 a b = (if a = i ∧ b = j then 0 else M 3 a b) ∧ los M i j 4 a b = (if a = i ∧ b = j then 0 else M 4 a b) ∧ los M i j 5 a b = (if a = i ∧ b = j then 0 else M 5 a b) := by
  unfold los
  simp [mup_at]
/-- the routes alone: where roads, forts and letters are as they were -/
theorem Inv.rts {B : Nat} {M M' : Cm} (h : Inv B M) (ht : ∀ t, t < 2 ∨ 5 < t → M' t = M t) (hR : okR M') (hr : iRt M') : Inv B M' := by
  have e11 := ht 11 (by omega)
  have e1 := ht 1 (by omega)
  have e6 := ht 6 (by omega)
  have e7 := ht 7 (by omega)
  have e8 := ht 8 (by omega)
  have e9 := ht 9 (by omega)
  have e10 := ht 10 (by omega)
  refine ⟨⟨hR, by rw [e11]; exact h.1.2.1, h.1.2.2.eqv (by rw [e11]) (fun t a b => ht t (by omega))⟩, ?_, hr, ?_, by rw [e11]; exact h.2.2.2.2.1, by rw [e11]; exact h.2.2.2.2.2⟩
  · have := h.2.1
    unfold iRd degN at this ⊢
    rw [e1, e11]
    exact this
  · have := h.2.2.2.1
    unfold iLt ltc at this ⊢
    rw [e6, e7, e8, e9, e10, e11]
    exact this
theorem iRt.tk {M : Cm} {i j n d s : Nat} (h : iRt M) (hi : i < M 11 0 2) (hj : j < M 11 0 2) (hij : i ≠ j) (h1 : 0 < M 1 i n) (h2 : M 1 i n ≤ d) (h3 : d ≤ 59) (h4 : 1 ≤ s) (h5 : s ≤ 8) : iRt (tk M i j n d s) := by
  intro a b
  obtain ⟨t2, t3, t4, -⟩ := tk_at (M := M) (i := i) (j := j) (n := n) (d := d) (s := s) (a := a) (b := b)
  unfold rtc
  rw [t2, t3, t4, tk_t (t := 11) (by omega), tk_t (t := 1) (by omega)]
  by_cases q : a = i ∧ b = j
  · obtain ⟨rfl, rfl⟩ := q
    simp only [and_self, if_true]
    exact ⟨fun e => by omega, fun _ => ⟨hi, hj, hij, h3, h1, h2, h4, h5⟩⟩
  · rw [if_neg q, if_neg q, if_neg q]
    exact h a b
theorem iRt.los {M : Cm} {i j : Nat} (h : iRt M) : iRt (los M i j) := by
  intro a b
  obtain ⟨t2, t3, t4, -⟩ := los_at (M := M) (i := i) (j := j) (a := a) (b := b)
  unfold rtc
  rw [t2, t3, t4, los_t (t := 11) (by omega), los_t (t := 1) (by omega)]
  by_cases q : a = i ∧ b = j
  · rw [if_pos q, if_pos q, if_pos q]
    exact ⟨fun _ => rfl, fun e => absurd e (Nat.lt_irrefl 0)⟩
  · rw [if_neg q, if_neg q, if_neg q]
    exact h a b
theorem okR.tk {M : Cm} {i j n d s : Nat} (h : okR M) (hn : n < 8) (hd : d ≤ 1000) (hs : s ≤ 1000) : okR (tk M i j n d s) := ⟨h.1.tk (by omega) (by omega) (by omega), fun a b => by
  rw [tk_at.2.1]
  have := h.2.1 a b
  split <;> omega, fun a b => by
  rw [tk_at.2.2.2]
  have := h.2.2 a b
  split <;> omega⟩
theorem okR.los {M : Cm} {i j : Nat} (h : okR M) : okR (los M i j) := ⟨h.1.los _ _, fun a b => by
  rw [los_at.2.1]
  have := h.2.1 a b
  split <;> omega, fun a b => by
  rw [los_at.2.2.2]
  have := h.2.2 a b
  split <;> omega⟩
theorem Inv.tkR {B i j n : Nat} {M : Cm} (h : Inv B M) (hi : i < M 11 0 2) (hj : j < M 11 0 2) (hij : i ≠ j) (h1 : M 1 i j = n) (hn : 0 < n) (hn2 : n ≤ 15) : Inv B (takeR M i j n) := by
  have hF := h.1.2.1
  unfold takeR
  split
  · exact h.rts (fun t ht => tk_t ht) (h.1.1.tk (by omega) (by omega) (by omega)) (h.2.2.1.tk hi hj hij (by omega) (by omega) (by omega) (by omega) (by omega))
  · exact h
theorem Inv.road {B i j n : Nat} {M : Cm} (h : Inv B M) (hi : i < M 11 0 2) (hj : j < M 11 0 2) (hij : i ≠ j) (h0 : M 1 i j = 0) (hn : 0 < n) (hn2 : n ≤ 15) (hc : M 11 0 0 < 16) : Inv B (roadM M i j n) := by
  have hJ := h.join hi hj hij h0 hn hn2 hc
  have e2 : joinM M i j n 11 0 2 = M 11 0 2 := joinM_11 (by omega)
  have h2 := hJ.tkR (i := i) (j := j) (n := n) (by omega) (by omega) hij (by rw [joinM_1, if_neg (by omega), if_pos ⟨rfl, rfl⟩]) hn hn2
  refine h2.tkR (by rw [takeR_t (by omega)]; omega) (by rw [takeR_t (by omega)]; omega) (fun e => hij e.symm) ?_ hn hn2
  rw [takeR_t (by omega), joinM_1, if_pos ⟨rfl, rfl⟩]
