/-! the country's changes keep it: a road cut -/
theorem los_t2 {M : Cm} {i j a b t : Nat} (h : 2 ≤ t ∧ t ≤ 5) : los M i j t a b = if a = i ∧ b = j then 0 else M t a b := by
  obtain ⟨h2, h3, h4, h5⟩ := los_at (M := M) (i := i) (j := j) (a := a) (b := b)
  rcases (by omega : t = 2 ∨ t = 3 ∨ t = 4 ∨ t = 5) with rfl | rfl | rfl | rfl
  · exact h2
  · exact h3
  · exact h4
  · exact h5
theorem loA_at {M : Cm} {i n t a b : Nat} (h : 2 ≤ t ∧ t ≤ 5) : ∀ k, loA M i n k t a b = if a = i ∧ b < k ∧ 0 < M 2 i b ∧ M 3 i b = n then 0 else M t a b := by
  intro k
  induction k generalizing t a b with
  | zero =>
    rw [if_neg (by omega)]
    rfl
  | succ k ih =>
    have e2 : loA M i n k 2 i k = M 2 i k := by rw [ih (by omega), if_neg (by omega)]
    have e3 : loA M i n k 3 i k = M 3 i k := by rw [ih (by omega), if_neg (by omega)]
    unfold loA
    rw [e2, e3]
    by_cases q : 0 < M 2 i k ∧ M 3 i k = n
    · rw [if_pos q, los_t2 h, ih h]
      by_cases q1 : a = i ∧ b = k
      · obtain ⟨rfl, rfl⟩ := q1
        rw [if_pos ⟨rfl, rfl⟩, if_pos ⟨rfl, by omega, q⟩]
      · rw [if_neg q1]
        by_cases q2 : a = i ∧ b < k ∧ 0 < M 2 i b ∧ M 3 i b = n
        · rw [if_pos q2, if_pos ⟨q2.1, by omega, q2.2.2⟩]
        · rw [if_neg q2, if_neg (fun q3 => q2 ⟨q3.1, by omega, q3.2.2⟩)]
    · rw [if_neg q, ih h]
      by_cases q2 : a = i ∧ b < k ∧ 0 < M 2 i b ∧ M 3 i b = n
      · rw [if_pos q2, if_pos ⟨q2.1, by omega, q2.2.2⟩]
      · rw [if_neg q2, if_neg (fun q3 => ?_)]
        by_cases e : b = k
        · subst e
          exact q q3.2.2
        · exact q2 ⟨q3.1, by omega, q3.2.2⟩
theorem partM_1 {M : Cm} {i j a b : Nat} : partM M i j 1 a b = if (a = j ∧ b = i) ∨ (a = i ∧ b = j) then 0 else M 1 a b := by
  unfold partM
  rw [mup_at, if_neg (by omega), mup_at]
  by_cases q : a = j ∧ b = i
  · rw [if_pos ⟨rfl, q⟩, if_pos (Or.inl q)]
  · rw [if_neg (by omega), mup_at]
    by_cases q2 : a = i ∧ b = j
    · rw [if_pos ⟨rfl, q2⟩, if_pos (Or.inr q2)]
    · rw [if_neg (by omega), if_neg (by omega)]
theorem cutM_t {M : Cm} {i j t : Nat} (h : t < 2 ∨ 5 < t) : cutM M i j t = partM M i j t := (loA_t h 8).trans (loA_t h 8)
theorem cutM_at {M : Cm} {i j a b t : Nat} (hij : i ≠ j) (h : 2 ≤ t ∧ t ≤ 5) : cutM M i j t a b = if (a = i ∧ b < 8 ∧ 0 < M 2 i b ∧ M 3 i b = j) ∨ (a = j ∧ b < 8 ∧ 0 < M 2 j b ∧ M 3 j b = i) then 0 else M t a b := by
  have p : ∀ t a b, 2 ≤ t ∧ t ≤ 5 → partM M i j t a b = M t a b := fun t a b h => by rw [partM_t (by omega) (by omega)]
  have e : ∀ t a b, 2 ≤ t ∧ t ≤ 5 → loA (partM M i j) i j 8 t a b = if a = i ∧ b < 8 ∧ 0 < M 2 i b ∧ M 3 i b = j then 0 else M t a b := fun t a b h => by
    rw [loA_at h, p 2 i b (by omega), p 3 i b (by omega), p t a b h]
  have e2 : ∀ t b, 2 ≤ t ∧ t ≤ 5 → loA (partM M i j) i j 8 t j b = M t j b := fun t b h => by
    rw [e t j b h, if_neg (by omega)]
  unfold cutM
  rw [loA_at h, e2 2 b (by omega), e2 3 b (by omega), e t a b h]
  by_cases q : a = j ∧ b < 8 ∧ 0 < M 2 j b ∧ M 3 j b = i
  · rw [if_pos q, if_pos (Or.inr q)]
  · rw [if_neg q]
    by_cases q2 : a = i ∧ b < 8 ∧ 0 < M 2 i b ∧ M 3 i b = j
    · rw [if_pos q2, if_pos (Or.inl q2)]
    · rw [if_neg q2, if_neg (fun q3 => q3.elim q2 q)]
theorem Inv.cut {B i j : Nat} {M : Cm} (h : Inv B M) (hi : i < M 11 0 2) (hj : j < M 11 0 2) (hij : i ≠ j) (h0 : 0 < M 1 i j) : Inv B (cutM M i j) := by
  have hF := h.1.2.1
  have hcount := h.w.2 i j h0
  obtain ⟨r1, r2, r3, r4, r5⟩ := h.2.1
  have h0' : 0 < M 1 j i := by
    rw [r1]
    exact h0
  have e1 : ∀ a b, cutM M i j 1 a b = if (a = j ∧ b = i) ∨ (a = i ∧ b = j) then 0 else M 1 a b := fun a b => by rw [cutM_t (by omega), partM_1]
  have et : ∀ t, 5 < t → t ≠ 11 → cutM M i j t = M t := fun t a b => (cutM_t (by omega)).trans (partM_t (by omega) b)
  have e0 : ∀ k, k ≠ 0 → cutM M i j 11 0 k = M 11 0 k := fun k hk => by rw [cutM_t (by omega), partM_11 hk]
  have ec : cutM M i j 11 0 0 = M 11 0 0 - 1 := by
    rw [cutM_t (by omega)]
    unfold partM
    rw [mup_at, if_pos (by omega)]
  have hs : sm (cutM M i j) := by
    have c := h.1.1.1.2.1 0 (by omega)
    have hp : sm (partM M i j) := ((h.1.1.1.up (by omega)).up (by omega)).up (by omega)
    exact (hp.loA i j 8).loA j i 8
  have ca : ∀ t a b, 2 ≤ t ∧ t ≤ 5 → cutM M i j t a b = if (a = i ∧ b < 8 ∧ 0 < M 2 i b ∧ M 3 i b = j) ∨ (a = j ∧ b < 8 ∧ 0 < M 2 j b ∧ M 3 j b = i) then 0 else M t a b := fun t a b ht => cutM_at hij ht
  refine ⟨⟨⟨hs, fun a b => ?_, fun a b => ?_⟩, by rw [e0 2 (by omega)]; exact hF, h.1.2.2.eqv (e0 1 (by omega)) (fun t a b => et t (by omega) (by omega))⟩, ⟨fun a b => ?_, fun a b => ?_, fun a => ?_, fun a b ha => ?_, ?_⟩, fun a b => ?_, fun k hk => ?_, by rw [e0 4 (by omega)]; exact h.2.2.2.2.1, by rw [e0 5 (by omega)]; exact h.2.2.2.2.2⟩
  · rw [ca 3 a b (by omega)]
    have := h.1.1.2.1 a b
    split <;> omega
  · rw [ca 5 a b (by omega)]
    have := h.1.1.2.2 a b
    split <;> omega
  · rw [e1, e1, r1 a b]
    by_cases q : (a = j ∧ b = i) ∨ (a = i ∧ b = j)
    · rw [if_pos q, if_pos (by omega)]
    · rw [if_neg q, if_neg (by omega)]
  · rw [e1]
    have := r2 a b
    split <;> omega
  · rw [e1, if_neg (by omega)]
    exact r3 a
  · rw [e0 2 (by omega)] at ha
    rw [e1, if_neg (by omega)]
    exact r4 a b ha
  · rw [ec]
    have dI : ∀ x y, x ≠ y → (x = i ∧ y = j ∨ x = j ∧ y = i) → degN M x = degN (cutM M i j) x + 1 := fun x y hxy hx => by
      have hA : ∀ b, b ≠ y → (0 < M 1 x b ↔ 0 < cutM M i j 1 x b) := fun b hb => by
        rw [e1, if_neg (by omega)]
      have hB : 0 < M 1 x y := by
        rcases hx with ⟨rfl, rfl⟩ | ⟨rfl, rfl⟩
        · exact h0
        · exact h0'
      have hC : ¬ 0 < cutM M i j 1 x y := by
        rw [e1, if_pos (by omega)]
        omega
      have hy : y < 8 := by omega
      have key := cntN_one (p := fun b => 0 < cutM M i j 1 x b) (q := fun b => 0 < M 1 x b) (x := y) hA hB hC 8
      rw [if_pos hy] at key
      exact key
    have := sumN_two (g := degN (cutM M i j)) (g' := degN M) hij (fun k hk hk2 => ?_) (dI i j hij (Or.inl ⟨rfl, rfl⟩)) (dI j i (fun e => hij e.symm) (Or.inr ⟨rfl, rfl⟩)) 8
    · rw [r5, if_pos (by omega), if_pos (by omega)] at this
      omega
    · unfold degN
      refine cntN_cong 8 (fun b hb => ?_)
      rw [e1, if_neg (by omega)]
  · have hr := h.2.2.1 a b
    unfold rtc at hr ⊢
    rw [ca 2 a b (by omega), ca 3 a b (by omega), ca 4 a b (by omega), e0 2 (by omega)]
    by_cases q : (a = i ∧ b < 8 ∧ 0 < M 2 i b ∧ M 3 i b = j) ∨ (a = j ∧ b < 8 ∧ 0 < M 2 j b ∧ M 3 j b = i)
    · rw [if_pos q, if_pos q, if_pos q]
      exact ⟨fun _ => rfl, fun e => absurd e (Nat.lt_irrefl 0)⟩
    · rw [if_neg q, if_neg q, if_neg q]
      refine ⟨hr.1, fun hp => ?_⟩
      have hr2 := hr.2 hp
      rw [e1, if_neg (fun q2 => q ?_)]
      · exact hr2
      · rcases q2 with ⟨rfl, q3⟩ | ⟨rfl, q3⟩
        · exact Or.inr ⟨rfl, by omega, hp, q3⟩
        · exact Or.inl ⟨rfl, by omega, hp, q3⟩
  · rw [e0 1 (by omega)] at hk
    have := h.2.2.2.1 k hk
    unfold ltc at this ⊢
    rw [et 6 (by omega) (by omega), et 7 (by omega) (by omega), et 8 (by omega) (by omega), et 9 (by omega) (by omega), et 10 (by omega) (by omega), e0 2 (by omega)]
    exact this
