/-! lines and ranks -/
def cL (c : Nat) (A : List Nat) : Nat := cntN (fun k => A.getD k 0 = c) A.length
theorem getD_app {A B : List Nat} {k : Nat} : (A ++ B).getD k 0 = if k < A.length then A.getD k 0 else B.getD (k - A.length) 0 := by
  simp only [List.getD_eq_getElem?_getD]
  by_cases q : k < A.length
  · rw [if_pos q, List.getElem?_append_left q]
  · rw [if_neg q, List.getElem?_append_right (by omega)]
theorem cntN_add {p : Nat → Prop} [DecidablePred p] {a : Nat} : ∀ b, cntN p (a + b) = cntN p a + cntN (fun k => p (a + k)) b
  | 0 => rfl
  | b + 1 => by
    show cntN p (a + b) + (if p (a + b) then 1 else 0) = cntN p a + (cntN (fun k => p (a + k)) b + (if p (a + b) then 1 else 0))
    rw [cntN_add b, Nat.add_assoc]
theorem cL_app {c : Nat} {A B : List Nat} : cL c (A ++ B) = cL c A + cL c B := by
  unfold cL
  rw [List.length_append, cntN_add]
  have e1 : cntN (fun k => (A ++ B).getD k 0 = c) A.length = cntN (fun k => A.getD k 0 = c) A.length := cntN_cong _ (fun k hk => by rw [getD_app, if_pos hk])
  have e2 : cntN (fun k => (A ++ B).getD (A.length + k) 0 = c) B.length = cntN (fun k => B.getD k 0 = c) B.length := cntN_cong _ (fun k hk => by rw [getD_app, if_neg (by omega), Nat.add_sub_cancel_left])
  rw [e1, e2]
theorem cL_one {c x : Nat} : cL c [x] = if x = c then 1 else 0 := Nat.zero_add _
theorem cL_digs {c k : Nat} (hc : c < 48) (hk : k < 100) : cL c (digs k) = 0 := by
  unfold digs
  split
  · rw [cL_one, if_neg (by omega)]
  · rw [show ([48 + k / 10, 48 + k % 10] : List Nat) = [48 + k / 10] ++ [48 + k % 10] from rfl, cL_app, cL_one, cL_one, if_neg (by omega), if_neg (by omega)]
theorem cL_kn {M : Cm} {i j c : Nat} (hc : c < 48) (hm : M 2 i j < 60) : cL c (knL M i j) = if 0 < M 2 i j then 0 else if c = 45 then 1 else 0 := by
  unfold knL
  rw [cL_app, cL_one, if_neg (by omega), Nat.zero_add]
  by_cases q : 0 < M 2 i j
  · rw [if_pos q, if_pos q, cL_app, cL_digs hc (by omega), cL_one, if_neg (by omega)]
  · rw [if_neg q, if_neg q, cL_one]
    by_cases e : c = 45
    · rw [if_pos e, if_pos e.symm]
    · rw [if_neg e, if_neg (fun h => e h.symm)]
theorem cL_hd {M : Cm} {i c : Nat} (hc : c = 44 ∨ c = 45) : cL c (hdL M i) = 0 := by
  unfold hdL
  rw [cL_app, cL_one (x := 58), if_neg (show ¬ 58 = c by omega), Nat.add_zero]
  split
  · rw [cL_one, if_neg (by omega)]
  · rw [cL_app, cL_one, cL_one, if_neg (by omega), if_neg (by omega)]
theorem cL_45 {M : Cm} {i : Nat} (hm : ∀ j, M 2 i j < 60) : ∀ n, cL 45 (tgL M i n (hdL M i)) = cntN (fun k => k ≠ i ∧ ¬ 0 < M 2 i k) n
  | 0 => cL_hd (Or.inr rfl)
  | n + 1 => by
    have ih := cL_45 hm n
    show cL 45 (if n = i then tgL M i n (hdL M i) else (if fst9 i n = 0 then tgL M i n (hdL M i) ++ [44] else tgL M i n (hdL M i)) ++ knL M i n) = cntN (fun k => k ≠ i ∧ ¬ 0 < M 2 i k) n + (if n ≠ i ∧ ¬ 0 < M 2 i n then 1 else 0)
    by_cases e : n = i
    · rw [if_pos e, if_neg (fun c => c.1 e)]
      exact ih
    · rw [if_neg e, cL_app, cL_kn (by omega) (hm n)]
      have e2 : cL 45 (if fst9 i n = 0 then tgL M i n (hdL M i) ++ [44] else tgL M i n (hdL M i)) = cntN (fun k => k ≠ i ∧ ¬ 0 < M 2 i k) n := by
        split
        · rw [cL_app, cL_one, if_neg (by omega)]
          exact ih
        · exact ih
      rw [e2]
      refine congrArg _ ?_
      by_cases q : 0 < M 2 i n
      · rw [if_pos q, if_neg (fun c => c.2 q)]
      · rw [if_neg q, if_pos rfl, if_pos ⟨e, q⟩]
theorem cL_44 {M : Cm} {i : Nat} (hm : ∀ j, M 2 i j < 60) : ∀ n, cL 44 (tgL M i n (hdL M i)) = if i < n then n - 2 else n - 1
  | 0 => by
    rw [if_neg (Nat.not_lt_zero i)]
    exact cL_hd (Or.inl rfl)
  | n + 1 => by
    have ih := cL_44 hm n
    show cL 44 (if n = i then tgL M i n (hdL M i) else (if fst9 i n = 0 then tgL M i n (hdL M i) ++ [44] else tgL M i n (hdL M i)) ++ knL M i n) = _
    by_cases e : n = i
    · rw [if_pos e, ih, if_neg (by omega), if_pos (by omega)]
      omega
    · rw [if_neg e, cL_app, cL_kn (by omega) (hm n)]
      have e3 : (if 0 < M 2 i n then 0 else if (44 : Nat) = 45 then 1 else 0) = 0 := by
        split
        · rfl
        · rw [if_neg (by omega)]
      rw [e3]
      unfold fst9
      by_cases q : n = 0 ∨ (n = 1 ∧ i = 0)
      · rw [if_pos q, if_neg (by omega), ih]
        by_cases l : i < n
        · rw [if_pos l, if_pos (by omega)]
          omega
        · rw [if_neg l, if_neg (by omega)]
          omega
      · rw [if_neg q, if_pos rfl, cL_app, cL_one, if_pos rfl, ih]
        by_cases l : i < n
        · rw [if_pos l, if_pos (by omega)]
          omega
        · rw [if_neg l, if_neg (by omega)]
          omega
theorem none_N {p : Nat → Prop} [DecidablePred p] {i : Nat} (hi : ¬ p i) : ∀ n, cntN (fun k => k ≠ i ∧ ¬ p k) n + cntN p n + (if i < n then 1 else 0) = n
  | 0 => by
    rw [if_neg (Nat.not_lt_zero i)]
    rfl
  | n + 1 => by
    have ih := none_N hi n
    show cntN (fun k => k ≠ i ∧ ¬ p k) n + (if n ≠ i ∧ ¬ p n then 1 else 0) + (cntN p n + (if p n then 1 else 0)) + (if i < n + 1 then 1 else 0) = n + 1
    by_cases e : n = i
    · subst e
      rw [if_neg (fun c => c.1 rfl), if_neg hi, if_pos (by omega)]
      rw [if_neg (by omega)] at ih
      omega
    · by_cases q : p n
      · rw [if_neg (fun c => c.2 q), if_pos q]
        by_cases l : i < n
        · rw [if_pos l] at ih
          rw [if_pos (by omega)]
          omega
        · rw [if_neg l] at ih
          rw [if_neg (by omega)]
          omega
      · rw [if_pos ⟨e, q⟩, if_neg q]
        by_cases l : i < n
        · rw [if_pos l] at ih
          rw [if_pos (by omega)]
          omega
        · rw [if_neg l] at ih
          rw [if_neg (by omega)]
          omega
theorem tgL_pre {M : Cm} {i : Nat} {A : List Nat} : ∀ k, ∃ B, tgL M i k A = A ++ B
  | 0 => ⟨[], (List.append_nil A).symm⟩
  | k + 1 => by
    obtain ⟨B, hB⟩ := tgL_pre (M := M) (i := i) (A := A) k
    show ∃ B, (if k = i then tgL M i k A else (if fst9 i k = 0 then tgL M i k A ++ [44] else tgL M i k A) ++ knL M i k) = A ++ B
    rw [hB]
    split
    · exact ⟨B, rfl⟩
    · split
      · exact ⟨B ++ [44] ++ knL M i k, by simp only [List.append_assoc]⟩
      · exact ⟨B ++ knL M i k, by simp only [List.append_assoc]⟩
theorem tlL_0 {M : Cm} {i : Nat} : (tlL M i).getD 0 0 = 97 + i ∧ (tlL M i).getD 1 0 = (if M 0 0 i = 0 then 58 else 33) ∧ 1 < (tlL M i).length := by
  obtain ⟨B, hB⟩ := tgL_pre (M := M) (i := i) (A := hdL M i) (M 11 0 2)
  unfold tlL
  rw [hB]
  unfold hdL
  split
  · exact ⟨rfl, rfl, by simp⟩
  · exact ⟨rfl, rfl, by simp⟩
/-! ranks -/
theorem ahd_irr {M : Cm} {i : Nat} : ¬ ahd M i i := by
  unfold ahd
  omega
theorem ahd_tr {M : Cm} {i j k : Nat} (h1 : ahd M i j) (h2 : ahd M j k) : ahd M i k := by
  unfold ahd at *
  omega
theorem ahd_tot {M : Cm} {i j : Nat} (h : i ≠ j) : ahd M i j ∨ ahd M j i := by
  unfold ahd
  omega
theorem cntN_mono {p q : Nat → Prop} [DecidablePred p] [DecidablePred q] (h : ∀ k, p k → q k) : ∀ n, cntN p n ≤ cntN q n
  | 0 => Nat.le_refl _
  | n + 1 => by
    have ih := cntN_mono h n
    show cntN p n + (if p n then 1 else 0) ≤ cntN q n + (if q n then 1 else 0)
    by_cases a : p n
    · rw [if_pos a, if_pos (h n a)]
      omega
    · rw [if_neg a]
      omega
theorem cntN_lt {p q : Nat → Prop} [DecidablePred p] [DecidablePred q] (h : ∀ k, p k → q k) {x : Nat} (hx : q x) (hn : ¬ p x) : ∀ n, x < n → cntN p n < cntN q n
  | n + 1, hl => by
    show cntN p n + (if p n then 1 else 0) < cntN q n + (if q n then 1 else 0)
    by_cases e : x = n
    · subst e
      have := cntN_mono h x
      rw [if_neg hn, if_pos hx]
      omega
    · have ih := cntN_lt h hx hn n (by omega)
      by_cases a : p n
      · rw [if_pos a, if_pos (h n a)]
        omega
      · rw [if_neg a]
        omega
theorem plN_lt {M : Cm} {i j F : Nat} (hi : i < F) (h : ahd M i j) : plN M i F < plN M j F := cntN_lt (p := fun o => ahd M o i) (q := fun o => ahd M o j) (fun k hk => ahd_tr hk h) (x := i) h ahd_irr F hi
theorem plN_F {M : Cm} {i F : Nat} (hi : i < F) : plN M i F < F := by
  have h1 := cntN_lt (p := fun o => ahd M o i) (q := fun _ => True) (fun _ _ => trivial) (x := i) trivial ahd_irr F hi
  rw [cntN_all (p := fun _ => True) (fun _ => trivial)] at h1
  exact h1
theorem plN_inj {M : Cm} {i j F : Nat} (hi : i < F) (hj : j < F) (e : plN M i F = plN M j F) : i = j := by
  refine Decidable.byContradiction fun c => ?_
  rcases ahd_tot (M := M) c with h | h
  · have := plN_lt hi h
    omega
  · have := plN_lt hj h
    omega
theorem plN_sur {M : Cm} {F p : Nat} (hp : p < F) : ∃ i, i < F ∧ plN M i F = p := by
  refine Classical.byContradiction fun c => ?_
  have hne : ∀ i, i < F → plN M i F ≠ p := fun i hi e => c ⟨i, hi, e⟩
  obtain ⟨j, m, h1, h2, h3⟩ := php (F - 1) (fun y => if p < plN M y F then plN M y F - 1 else plN M y F) (fun y hy => by
    have a := plN_F (M := M) (show y < F by omega)
    have b := hne y (by omega)
    split <;> omega)
  have a := hne j (by omega)
  have b := hne m (by omega)
  have e : plN M j F = plN M m F := by
    split at h3 <;> split at h3 <;> omega
  have := plN_inj (by omega) (by omega) e
  omega
