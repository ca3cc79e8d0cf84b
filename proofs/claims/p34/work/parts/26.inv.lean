/-! what holds of a country at all times -/
theorem cntN_one {p q : Nat → Prop} [DecidablePred p] [DecidablePred q] {x : Nat} (h : ∀ k, k ≠ x → (q k ↔ p k)) (hq : q x) (hp : ¬ p x) : ∀ n, cntN q n = cntN p n + (if x < n then 1 else 0)
  | 0 => by simp [cntN]
  | n + 1 => by
    have ih := cntN_one h hq hp n
    unfold cntN
    rw [ih]
    by_cases e : n = x
    · subst e
      rw [if_pos hq, if_neg hp, if_neg (Nat.lt_irrefl _), if_pos (Nat.lt_succ_self _)]
    · have hh := h n e
      by_cases qn : q n
      · rw [if_pos qn, if_pos (hh.mp qn)]
        by_cases l : x < n
        · rw [if_pos l, if_pos (by omega)]
        · rw [if_neg l, if_neg (by omega)]
      · rw [if_neg qn, if_neg (fun c => qn (hh.mpr c))]
        by_cases l : x < n
        · rw [if_pos l, if_pos (by omega)]
        · rw [if_neg l, if_neg (by omega)]
theorem cntN_cong {p q : Nat → Prop} [DecidablePred p] [DecidablePred q] : ∀ n, (∀ k, k < n → (q k ↔ p k)) → cntN q n = cntN p n
  | 0, _ => rfl
  | n + 1, h => by
    have ih := cntN_cong n (fun k hk => h k (by omega))
    unfold cntN
    rw [ih]
    have hh := h n (by omega)
    by_cases qn : q n
    · rw [if_pos qn, if_pos (hh.mp qn)]
    · rw [if_neg qn, if_neg (fun c => qn (hh.mpr c))]
theorem cntN_pos {p : Nat → Prop} [DecidablePred p] {x : Nat} (hx : p x) : ∀ n, x < n → 0 < cntN p n
  | 0, h => absurd h (Nat.not_lt_zero _)
  | n + 1, h => by
    unfold cntN
    by_cases e : x = n
    · subst e
      rw [if_pos hx]
      omega
    · have := cntN_pos hx n (by omega)
      omega
theorem sumN_two {g g' : Nat → Nat} {i j : Nat} (hij : i ≠ j) (h : ∀ k, k ≠ i → k ≠ j → g' k = g k) (hi : g' i = g i + 1) (hj : g' j = g j + 1) : ∀ n, sumN g' n = sumN g n + (if i < n then 1 else 0) + (if j < n then 1 else 0)
  | 0 => by simp [sumN]
  | n + 1 => by
    have ih := sumN_two hij h hi hj n
    unfold sumN
    rw [ih]
    by_cases e : n = i
    · subst e
      rw [hi, if_neg (Nat.lt_irrefl _), if_pos (Nat.lt_succ_self _)]
      by_cases l : j < n
      · rw [if_pos l, if_pos (by omega)]
        omega
      · rw [if_neg l, if_neg (by omega)]
        omega
    · by_cases e2 : n = j
      · subst e2
        rw [hj, if_neg (Nat.lt_irrefl _), if_pos (Nat.lt_succ_self _)]
        by_cases l : i < n
        · rw [if_pos l, if_pos (by omega)]
          omega
        · rw [if_neg l, if_neg (by omega)]
          omega
      · rw [h n e e2]
        have c1 : (if i < n + 1 then 1 else 0) = (if i < n then 1 else 0) := by
          by_cases l : i < n
          · rw [if_pos l, if_pos (by omega)]
          · rw [if_neg l, if_neg (by omega)]
        have c2 : (if j < n + 1 then 1 else 0) = (if j < n then 1 else 0) := by
          by_cases l : j < n
          · rw [if_pos l, if_pos (by omega)]
          · rw [if_neg l, if_neg (by omega)]
        rw [c1, c2]
        omega
theorem sumN_cong {g g' : Nat → Nat} : ∀ n, (∀ k, k < n → g' k = g k) → sumN g' n = sumN g n
  | 0, _ => rfl
  | n + 1, h => by
    unfold sumN
    rw [sumN_cong n (fun k hk => h k (by omega)), h n (by omega)]
theorem sumN_pos {g : Nat → Nat} {x : Nat} (hx : 0 < g x) : ∀ n, x < n → 0 < sumN g n
  | 0, h => absurd h (Nat.not_lt_zero _)
  | n + 1, h => by
    unfold sumN
    by_cases e : x = n
    · subst e
      omega
    · have := sumN_pos hx n (by omega)
      omega
def degN (M : Cm) (i : Nat) : Nat := cntN (fun j => 0 < M 1 i j) 8
def iRd (M : Cm) : Prop := (∀ i j, M 1 i j = M 1 j i) ∧ (∀ i j, M 1 i j ≤ 15) ∧ (∀ i, M 1 i i = 0) ∧ (∀ i j, M 11 0 2 ≤ i → M 1 i j = 0) ∧ sumN (degN M) 8 = 2 * M 11 0 0
def rtc (M : Cm) (i j : Nat) : Prop := (M 2 i j = 0 → M 4 i j = 0) ∧ (0 < M 2 i j → i < M 11 0 2 ∧ j < M 11 0 2 ∧ i ≠ j ∧ M 2 i j ≤ 59 ∧ 0 < M 1 i (M 3 i j) ∧ M 1 i (M 3 i j) ≤ M 2 i j ∧ 1 ≤ M 4 i j ∧ M 4 i j ≤ 8)
def iRt (M : Cm) : Prop := ∀ i j, rtc M i j
def ltc (M : Cm) (k : Nat) : Prop := M 6 0 k < M 11 0 2 ∧ M 7 0 k < M 11 0 2 ∧ M 8 0 k ≤ 2 ∧ (M 8 0 k = 1 ↔ M 6 0 k = M 7 0 k) ∧ (M 8 0 k = 2 → M 9 0 k = 16 ∨ M 10 0 k = 3)
def iLt (M : Cm) : Prop := ∀ k, k < M 11 0 1 → ltc M k
/-- B: how many days at most -/
def Inv (B : Nat) (M : Cm) : Prop := okE M ∧ iRd M ∧ iRt M ∧ iLt M ∧ M 11 0 4 ≤ 8 ∧ M 11 0 5 ≤ B
theorem Inv.mono {B B' : Nat} {M : Cm} (h : Inv B M) (hB : B ≤ B') : Inv B' M := ⟨h.1, h.2.1, h.2.2.1, h.2.2.2.1, h.2.2.2.2.1, Nat.le_trans h.2.2.2.2.2 hB⟩
theorem Inv.w {B : Nat} {M : Cm} (h : Inv B M) : okW M := ⟨h.1, fun i j hp => by
  obtain ⟨r1, r2, r3, r4, r5⟩ := h.2.1
  have hi : i < 8 := by
    have := r4 i j
    have := h.1.2.1
    omega
  have hj : j < 8 := by
    have := r4 j i
    have := h.1.2.1
    have := r1 i j
    omega
  have h1 : 0 < degN M i := cntN_pos (p := fun j => 0 < M 1 i j) hp 8 hj
  have h2 := sumN_pos h1 8 hi
  omega⟩
/-- tables 1 to 10 as they were, and the numbers of roads, letters, forts -/
theorem Inv.eqv {B : Nat} {M M' : Cm} (h : Inv B M) (hs : sm M') (ht : ∀ t, 1 ≤ t → t ≤ 10 → M' t = M t) (h0 : M' 11 0 0 = M 11 0 0) (h1 : M' 11 0 1 = M 11 0 1) (h2 : M' 11 0 2 = M 11 0 2) (h4 : M' 11 0 4 ≤ 8) (h5 : M' 11 0 5 ≤ B) : Inv B M' := by
  have e1 := ht 1 (by omega) (by omega)
  have e2 := ht 2 (by omega) (by omega)
  have e3 := ht 3 (by omega) (by omega)
  have e4 := ht 4 (by omega) (by omega)
  have e5 := ht 5 (by omega) (by omega)
  have e6 := ht 6 (by omega) (by omega)
  have e7 := ht 7 (by omega) (by omega)
  have e8 := ht 8 (by omega) (by omega)
  have e9 := ht 9 (by omega) (by omega)
  have e10 := ht 10 (by omega) (by omega)
  refine ⟨⟨h.1.1.eqv hs e3 e5, by rw [h2]; exact h.1.2.1, h.1.2.2.eqv h1 (fun t a b => ht t (by omega) b)⟩, ?_, ?_, ?_, h4, h5⟩
  · have := h.2.1
    unfold iRd degN at this ⊢
    rw [e1, h0, h2]
    exact this
  · have := h.2.2.1
    unfold iRt rtc at this ⊢
    rw [e1, e2, e3, e4, h2]
    exact this
  · have := h.2.2.2.1
    unfold iLt ltc at this ⊢
    rw [e6, e7, e8, e9, e10, h1, h2]
    exact this
theorem Inv.way {B n : Nat} {M : Cm} (h : Inv B M) (hn : n < 1048576) : Inv B (mup M 11 0 3 n) := by
  refine h.eqv ?_ (fun t _ _ => mup_ne (by omega)) (by rw [mup_at, if_neg (by omega)]) (by rw [mup_at, if_neg (by omega)]) (by rw [mup_at, if_neg (by omega)]) (by rw [mup_at, if_neg (by omega)]; exact h.2.2.2.2.1) (by rw [mup_at, if_neg (by omega)]; exact h.2.2.2.2.2)
  exact h.1.1.1.up hn
theorem Inv.bound {B n : Nat} {M : Cm} (h : Inv B M) (hn : n ≤ 8) : Inv B (mup M 11 0 4 n) := by
  refine h.eqv ?_ (fun t _ _ => mup_ne (by omega)) (by rw [mup_at, if_neg (by omega)]) (by rw [mup_at, if_neg (by omega)]) (by rw [mup_at, if_neg (by omega)]) (by rw [mup_at, if_pos (by omega)]; exact hn) (by rw [mup_at, if_neg (by omega)]; exact h.2.2.2.2.2)
  exact h.1.1.1.up (by omega)
theorem Inv.sil {B i b : Nat} {M : Cm} (h : Inv B M) (hb : b < 2) : Inv B (mup M 0 0 i b) := by
  refine h.eqv ?_ (fun t _ _ => mup_ne (by omega)) (by rw [mup_at, if_neg (by omega)]) (by rw [mup_at, if_neg (by omega)]) (by rw [mup_at, if_neg (by omega)]) (by rw [mup_at, if_neg (by omega)]; exact h.2.2.2.2.1) (by rw [mup_at, if_neg (by omega)]; exact h.2.2.2.2.2)
  exact h.1.1.1.up (by omega) (fun _ => hb)
theorem Inv.fort {B : Nat} {M : Cm} (h : Inv B M) (hF : M 11 0 2 < 8) : Inv B (mup M 11 0 2 (M 11 0 2 + 1)) := by
  have e0 : ∀ j, j ≠ 2 → mup M 11 0 2 (M 11 0 2 + 1) 11 0 j = M 11 0 j := fun j hj => by rw [mup_at, if_neg (by omega)]
  have e2 : mup M 11 0 2 (M 11 0 2 + 1) 11 0 2 = M 11 0 2 + 1 := by rw [mup_at, if_pos (by omega)]
  have et : ∀ t, t ≠ 11 → mup M 11 0 2 (M 11 0 2 + 1) t = M t := fun t ht => mup_ne ht
  have hs : sm (mup M 11 0 2 (M 11 0 2 + 1)) := h.1.1.1.up (by omega)
  refine ⟨⟨h.1.1.eqv hs (et 3 (by omega)) (et 5 (by omega)), by rw [e2]; omega, h.1.2.2.eqv (e0 1 (by omega)) (fun t a b => et t (by omega))⟩, ?_, ?_, ?_, by rw [e0 4 (by omega)]; exact h.2.2.2.2.1, by rw [e0 5 (by omega)]; exact h.2.2.2.2.2⟩
  · obtain ⟨r1, r2, r3, r4, r5⟩ := h.2.1
    unfold iRd degN
    rw [et 1 (by omega), e0 0 (by omega), e2]
    exact ⟨r1, r2, r3, fun i j hi => r4 i j (by omega), r5⟩
  · intro i j
    have := h.2.2.1 i j
    unfold rtc at this ⊢
    rw [et 1 (by omega), et 2 (by omega), et 3 (by omega), et 4 (by omega), e2]
    refine ⟨this.1, fun hp => ?_⟩
    have := this.2 hp
    omega
  · intro k hk
    rw [e0 1 (by omega)] at hk
    have := h.2.2.2.1 k hk
    unfold ltc at this ⊢
    rw [et 6 (by omega), et 7 (by omega), et 8 (by omega), et 9 (by omega), et 10 (by omega), e2]
    omega
theorem Inv.post {B i j : Nat} {M : Cm} (h : Inv B M) (hi : i < M 11 0 2) (hj : j < M 11 0 2) (hij : i ≠ j) (hc : M 11 0 1 < 10) : Inv B (addL M i j) := by
  have hF := h.1.2.1
  have e0 : ∀ k, k ≠ 1 → addL M i j 11 0 k = M 11 0 k := fun k hk => addL_11 hk
  have e1 : addL M i j 11 0 1 = M 11 0 1 + 1 := by
    unfold addL
    rw [mup_at, if_pos (by omega)]
  have et : ∀ t, t < 6 ∨ 11 < t → addL M i j t = M t := fun t ht => addL_t ht
  have hs : sm (addL M i j) := (((((h.1.1.1.up (by omega)).up (by omega)).up (by omega)).up (by omega)).up (by omega)).up (by omega)
  have ea : ∀ t k, 6 ≤ t → t ≤ 10 → k ≠ M 11 0 1 → addL M i j t 0 k = M t 0 k := fun t k h1 h2 h3 => by
    unfold addL
    simp only [mup_at]
    repeat rw [if_neg (by omega)]
  have n6 : addL M i j 6 0 (M 11 0 1) = i := by simp [addL, mup_at]
  have n7 : addL M i j 7 0 (M 11 0 1) = j := by simp [addL, mup_at]
  have n8 : addL M i j 8 0 (M 11 0 1) = 0 := by simp [addL, mup_at]
  have n9 : addL M i j 9 0 (M 11 0 1) = 0 := by simp [addL, mup_at]
  have n10 : addL M i j 10 0 (M 11 0 1) = 0 := by simp [addL, mup_at]
  refine ⟨⟨h.1.1.eqv hs (et 3 (by omega)) (et 5 (by omega)), by rw [e0 2 (by omega)]; exact hF, ⟨by rw [e1]; omega, fun k hk => ?_⟩⟩, ?_, ?_, fun k hk => ?_, by rw [e0 4 (by omega)]; exact h.2.2.2.2.1, by rw [e0 5 (by omega)]; exact h.2.2.2.2.2⟩
  · rw [e1] at hk
    by_cases e : k = M 11 0 1
    · subst e
      rw [n6, n7, n8, n9, n10]
      omega
    · rw [ea 6 k (by omega) (by omega) e, ea 7 k (by omega) (by omega) e, ea 8 k (by omega) (by omega) e, ea 9 k (by omega) (by omega) e, ea 10 k (by omega) (by omega) e]
      exact h.1.2.2.2 k (by omega)
  · have := h.2.1
    unfold iRd degN at this ⊢
    rw [et 1 (by omega), e0 0 (by omega), e0 2 (by omega)]
    exact this
  · have := h.2.2.1
    unfold iRt rtc at this ⊢
    rw [et 1 (by omega), et 2 (by omega), et 3 (by omega), et 4 (by omega), e0 2 (by omega)]
    exact this
  · rw [e1] at hk
    unfold ltc
    rw [e0 2 (by omega)]
    by_cases e : k = M 11 0 1
    · subst e
      rw [n6, n7, n8, n9, n10]
      omega
    · rw [ea 6 k (by omega) (by omega) e, ea 7 k (by omega) (by omega) e, ea 8 k (by omega) (by omega) e, ea 9 k (by omega) (by omega) e, ea 10 k (by omega) (by omega) e]
      exact h.2.2.2.1 k (by omega)
