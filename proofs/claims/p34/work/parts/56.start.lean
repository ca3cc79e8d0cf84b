/-! what the law starts from -/
def sam (s s' : Rs) : Prop := s 0 = s' 0
theorem rFt_sam {T : List Nat} {s s' : Rs} (h : sam s s') : (rFt T s).1 = (rFt T s').1 ∧ sam (rFt T s).2 (rFt T s').2 := by
  unfold sam at h
  unfold rFt
  rw [h]
  by_cases q : inN T (s' 0) 97 104
  · rw [if_pos q, if_pos q]
    exact ⟨rfl, rfl⟩
  · rw [if_neg q, if_neg q]
    exact ⟨rfl, h⟩
theorem rDg_sam {T : List Nat} {s s' : Rs} (h : sam s s') : (rDg T s).1 = (rDg T s').1 ∧ sam (rDg T s).2 (rDg T s').2 := by
  unfold sam at h
  unfold rDg
  rw [h]
  by_cases q : inN T (s' 0) 48 57
  · rw [if_pos q, if_pos q]
    exact ⟨rfl, rfl⟩
  · rw [if_neg q, if_neg q]
    exact ⟨rfl, h⟩
theorem rSk_sam {T : List Nat} {c : Nat} {s s' : Rs} (h : sam s s') : (rSk T c s).1 = (rSk T c s').1 ∧ sam (rSk T c s).2 (rSk T c s').2 := by
  unfold sam at h
  unfold rSk
  rw [h]
  by_cases q : inN T (s' 0) c c
  · rw [if_pos q, if_pos q]
    exact ⟨rfl, rfl⟩
  · rw [if_neg q, if_neg q]
    exact ⟨rfl, h⟩
theorem rPt_sam {T : List Nat} {c : Nat} {s s' : Rs} (h : sam s s') : (rPt T c s).1 = (rPt T c s').1 ∧ sam (rPt T c s).2 (rPt T c s').2 := by
  unfold rPt
  split
  · exact rFt_sam h
  split
  · exact rDg_sam h
  split
  · exact ⟨rfl, (rDg_sam h).2⟩
  · exact rSk_sam h
theorem rWd_sam {T : List Nat} : ∀ (F : List Nat) {s s' : Rs}, sam s s' → (rWd T F s).1 = (rWd T F s').1 ∧ sam (rWd T F s).2 (rWd T F s').2
  | [], s, s', h => ⟨rfl, h⟩
  | c :: F, s, s', h => by
    obtain ⟨h1, h2⟩ := rPt_sam (T := T) (c := c) h
    unfold rWd
    rw [h1]
    split
    · exact ⟨rfl, h2⟩
    · exact rWd_sam F h2
theorem rOr_sam {T : List Nat} {s s' : Rs} (h : sam s s') : (rOr T s).1 = (rOr T s').1 ∧ sam (rOr T s).2 (rOr T s').2 := by
  unfold rOr
  have e : s 0 = s' 0 := h
  rw [e]
  split
  · exact ⟨rfl, h⟩
  · exact rWd_sam _ h
theorem rCt_sam {T : List Nat} : ∀ (m o : Nat) {s s' : Rs}, sam s s' → (rCt T m o s).1 = (rCt T m o s').1
  | 0, o, s, s', h => rfl
  | m + 1, o, s, s', h => by
    obtain ⟨h1, h2⟩ := rOr_sam (T := T) h
    have h2' : (rOr T s).2 0 = (rOr T s').2 0 := h2
    obtain ⟨h3, h4⟩ := rSk_sam (T := T) (c := 59) h2
    unfold rCt
    rw [h1, h2', h3]
    split
    · rfl
    split
    · rfl
    split
    · rfl
    · exact rCt_sam m (o + 1) h4
theorem textL_ct : ∀ k, k < 22 → (rCt (textL k) 60 1 (fun _ => 0)).1 ≠ 0 := by decide +kernel
theorem textL_good {k : Nat} (hk : k < 22) : rGood (textL k) := fun s => by
  have e : (rCt (textL k) 60 1 (hup s 0 0)).1 = (rCt (textL k) 60 1 (fun _ => 0)).1 := rCt_sam 60 1 (show sam (hup s 0 0) (fun _ => 0) from rfl)
  rw [e]
  exact textL_ct k hk
theorem cmN_0 {t r j : Nat} (h : ¬ (t = 11 ∧ j = 4)) : cmN t r j = 0 := if_neg h
theorem cmN_le {t r j : Nat} : cmN t r j ≤ 8 := by
  unfold cmN
  split <;> omega
theorem Inv_cmN : Inv 0 cmN := by
  refine ⟨⟨⟨⟨fun t r j ht => Nat.lt_of_le_of_lt cmN_le (by omega), fun j hj => Nat.lt_of_le_of_lt cmN_le (by omega), fun r j => by rw [cmN_0 (by omega)]; omega⟩, fun i j => by rw [cmN_0 (by omega)]; omega, fun i j => by rw [cmN_0 (by omega)]; omega⟩, cmN_le, by rw [cmN_0 (by omega)]; omega, fun k hk => ?_⟩, ⟨fun i j => by rw [cmN_0 (by omega), cmN_0 (by omega)], fun i j => by rw [cmN_0 (by omega)]; omega, fun i => by rw [cmN_0 (by omega)], fun i j _ => by rw [cmN_0 (by omega)], by decide +kernel⟩, fun i j => ⟨fun _ => cmN_0 (by omega), fun h => ?_⟩, fun k hk => ?_, cmN_le, by rw [cmN_0 (by omega)]; omega⟩
  · rw [cmN_0 (by omega)] at hk
    omega
  · rw [cmN_0 (by omega)] at h
    omega
  · rw [cmN_0 (by omega)] at hk
    omega
