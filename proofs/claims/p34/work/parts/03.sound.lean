/-! why the transformers are sound: locals, reads, writes -/
section ES
variable {s0 : State} {D : va_G} {ids : Nat → ClassId} {l : Launch} {own : String} {cc : ByteArray} {nL : Nat} {ret : Option FieldType} {nm : String} {rm : Room} {K : Kr} {E : Ej} {pc : Nat} {k : Xf}
theorem enL_len {A : Array Slot} {ls : Ls} (h : enL A ls) {i : Nat} {v : Value} (hi : ls[i]? = some (some v)) : i < ls.length := (List.getElem?_eq_some_iff.mp hi).1
def enPairs (ls : Ls) : List (Nat × Value) := (List.range ls.length).filterMap fun i => match ls[i]? with
  | some (some v) => some (i, v)
  | _ => none
theorem enPairs_in {ls : Ls} {i : Nat} {v : Value} : (i, v) ∈ enPairs ls ↔ ls[i]? = some (some v) := by
  unfold enPairs
  rw [List.mem_filterMap]
  constructor
  · rintro ⟨j, -, hj⟩
    split at hj
    · rename_i w hw
      cases hj
      exact hw
    · cases hj
  · intro h
    refine ⟨i, List.mem_range.mpr (List.getElem?_eq_some_iff.mp h).1, ?_⟩
    rw [h]
theorem enL_has {A : Array Slot} {ls : Ls} (h : enL A ls) : lv_has A ls.length (enPairs ls) := ⟨h.1, h.2.1, fun q hq => h.2.2 q.1 q.2 (enPairs_in.mp hq)⟩
theorem lkill_len (ls : Ls) (i : Nat) : (lkill ls i).length = ls.length := by
  unfold lkill
  split
  · rfl
  · split <;> simp
theorem lkill_at {ls : Ls} {i j : Nat} {v : Value} (h : (lkill ls i)[j]? = some (some v)) : ls[j]? = some (some v) ∧ ¬ (j + 1 = i ∧ v.category = 2) := by
  unfold lkill at h
  split at h
  · exact ⟨h, fun q => by omega⟩
  · rename_i i
    split at h
    · rw [List.getElem?_set] at h
      split at h
      · split at h <;> cases h
      · exact ⟨h, fun q => by omega⟩
    · rw [List.getElem?_set] at h
      split at h
      · split at h <;> cases h
      · exact ⟨h, fun q => by omega⟩
    · rename_i h1 h2
      refine ⟨h, fun q => ?_⟩
      have e : j = i := by omega
      subst e
      cases v with
      | long w => exact h1 w h
      | double w => exact h2 w h
      | _ => exact absurd q.2 (by simp [Value.category])
theorem enL_set1 {A A' : Array Slot} {ls : Ls} {i : Nat} {v : Value} (hA : enL A ls) (h : lv_has A' ls.length ((i, v) :: (enPairs ls).filter (fun q => !(q.1 == i) && !(q.1 + 1 == i && q.2.category == 2)))) : enL A' ((lkill ls i).set i (some v)) := by
  refine ⟨by rw [h.1]; simp [lkill_len], h.2.1, fun j w hj => ?_⟩
  rw [List.getElem?_set] at hj
  split at hj
  · rename_i e
    split at hj
    · cases hj
      subst e
      exact h.2.2 (i, v) List.mem_cons_self
    · cases hj
  · rename_i e
    obtain ⟨h1, h2⟩ := lkill_at hj
    refine h.2.2 (j, w) (List.mem_cons_of_mem _ (List.mem_filter.mpr ⟨enPairs_in.mpr h1, ?_⟩))
    have e' : ¬ j = i := fun q => e q.symm
    simp only [Bool.and_eq_true, Bool.not_eq_true', beq_eq_false_iff_ne, ne_eq, Bool.and_eq_false_iff]
    refine ⟨e', ?_⟩
    by_cases q : j + 1 = i
    · exact Or.inr (fun q2 => h2 ⟨q, q2⟩)
    · exact Or.inl q
theorem enL_set2 {A A' : Array Slot} {ls : Ls} {i : Nat} {v : Value} (hA : enL A ls) (h : lv_has A' ls.length ((i, v) :: (enPairs ls).filter (fun q => !(q.1 == i) && (!(q.1 == i + 1) && !(q.1 + 1 == i && q.2.category == 2))))) : enL A' (((lkill ls i).set i (some v)).set (i + 1) none) := by
  refine ⟨by rw [h.1]; simp [lkill_len], h.2.1, fun j w hj => ?_⟩
  rw [List.getElem?_set] at hj
  split at hj
  · split at hj <;> cases hj
  · rename_i e0
    rw [List.getElem?_set] at hj
    split at hj
    · rename_i e
      split at hj
      · cases hj
        subst e
        exact h.2.2 (i, v) List.mem_cons_self
      · cases hj
    · rename_i e
      obtain ⟨h1, h2⟩ := lkill_at hj
      refine h.2.2 (j, w) (List.mem_cons_of_mem _ (List.mem_filter.mpr ⟨enPairs_in.mpr h1, ?_⟩))
      have e' : ¬ j = i := fun q => e q.symm
      have e0' : ¬ j = i + 1 := fun q => e0 q.symm
      simp only [Bool.and_eq_true, Bool.not_eq_true', beq_eq_false_iff_ne, ne_eq, Bool.and_eq_false_iff]
      refine ⟨e', e0', ?_⟩
      by_cases q : j + 1 = i
      · exact Or.inr (fun q2 => h2 ⟨q, q2⟩)
      · exact Or.inl q
-- ----- the picture
theorem enW.old {z : Nat} {f : Fm} {H : Heap} (h : enW s0 D ids z f H) {q : Nat} (hq : q < s0.heap.size) : H[q]? = s0.heap[q]? := h.2.2.1 q hq
theorem enW.lt {z a : Nat} {f : Fm} {H : Heap} {ce : Ce} (h : enW s0 D ids z f H) (ha : f a = some ce) : a < z := by
  have h1 := h.2.2.2 a ce ha
  unfold enC at h1
  split at h1
  · have := h1.2.lt
    rw [h.1] at this
    exact this
  · exact Nat.lt_of_lt_of_le h1.1 h.2.1
theorem enW.mine {z a : Nat} {f : Fm} {H : Heap} {ce : Ce} (h : enW s0 D ids z f H) (ha : f a = some ce) (ho : ceOwn ce = true) : s0.heap.size ≤ a ∧ va_at D vwCl (a, cvE ids ce) H := by
  have h1 := h.2.2.2 a ce ha
  unfold enC at h1
  rwa [if_pos ho] at h1
theorem enW.ro {z a : Nat} {f : Fm} {H : Heap} {ce : Ce} (h : enW s0 D ids z f H) (ha : f a = some ce) (ho : ceOwn ce = false) : a < s0.heap.size ∧ enRO s0 a ce := by
  have h1 := h.2.2.2 a ce ha
  unfold enC at h1
  rwa [if_neg (by rw [ho]; decide)] at h1
theorem enW.set {z a : Nat} {f : Fm} {H H' : Heap} {ce0 ce : Ce} (h : enW s0 D ids z f H) (ha : f a = some ce0) (ho0 : ceOwn ce0 = true) (ho : ceOwn ce = true) (h1 : va_at D vwCl (a, cvE ids ce) H') (hz : H'.size = H.size) (hq : ∀ q : Nat, q ≠ a → H'[q]? = H[q]?) : enW s0 D ids z (va_up f a (some ce)) H' := by
  have hb := (h.mine ha ho0).1
  refine ⟨by rw [hz]; exact h.1, h.2.1, fun q hq2 => by rw [hq q (by omega)]; exact h.2.2.1 q hq2, fun b e hb2 => ?_⟩
  by_cases e1 : b = a
  · subst e1
    rw [va_up_self] at hb2
    cases hb2
    unfold enC
    rw [if_pos ho]
    exact ⟨hb, h1⟩
  · rw [va_up_ne _ _ e1] at hb2
    have h2 := h.2.2.2 b e hb2
    unfold enC at h2 ⊢
    split
    · rename_i e2
      rw [if_pos e2] at h2
      exact ⟨h2.1, h2.2.kept (hq b e1)⟩
    · rename_i e2
      rw [if_neg e2] at h2
      exact h2
theorem enW.push {z : Nat} {f : Fm} {H H' : Heap} {ce : Ce} (h : enW s0 D ids z f H) (ho : ceOwn ce = true) (h1 : va_at D vwCl (z, cvE ids ce) H') (hz : H'.size = z + 1) (hq : ∀ q : Nat, q < z → H'[q]? = H[q]?) : enW s0 D ids (z + 1) (va_up f z (some ce)) H' := by
  refine ⟨hz, Nat.le_succ_of_le h.2.1, fun q hq2 => by rw [hq q (Nat.lt_of_lt_of_le hq2 h.2.1)]; exact h.2.2.1 q hq2, fun b e hb2 => ?_⟩
  by_cases e1 : b = z
  · subst e1
    rw [va_up_self] at hb2
    cases hb2
    unfold enC
    rw [if_pos ho]
    exact ⟨h.2.1, h1⟩
  · rw [va_up_ne _ _ e1] at hb2
    have hlt := h.lt hb2
    have h2 := h.2.2.2 b e hb2
    unfold enC at h2 ⊢
    split
    · rename_i e2
      rw [if_pos e2] at h2
      exact ⟨h2.1, h2.2.kept (hq b hlt)⟩
    · rename_i e2
      rw [if_neg e2] at h2
      exact h2
theorem tysL_at {t : Nat} (h : t < 5) : (tysL ids)[t]? = some (ids t, tyA t) := by
  rcases (show t = 0 ∨ t = 1 ∨ t = 2 ∨ t = 3 ∨ t = 4 by omega) with rfl | rfl | rfl | rfl | rfl <;> rfl
theorem vp_cv (t n : Nat) (g : (Nat → Int32) ⊕ (Nat → Option Nat)) : ∃ x : vp_A, cvE ids (.inl (t, n, g)) = .inl (ids t, x) ∧ vp_cell (ids t) x = arrV (ids t) n (arG g) := by
  cases g with
  | inl f => exact ⟨_, rfl, rfl⟩
  | inr f => exact ⟨_, rfl, rfl⟩
theorem enArr {s : State} {z a t n : Nat} {f : Fm} {H : Heap} {g : (Nat → Int32) ⊕ (Nat → Option Nat)} (hS : enS s0 s) (hK : va_K D vwCl (tysL ids) s) (h : enW s0 D ids z f H) (ha : f a = some (.inl (t, n, g))) :
    ∃ cell : Cell, H[a]? = some cell ∧ s.isArrayOf cell (tyA t) ∧ cell.vm ≠ .unknown ∧ cell.slots.size = n ∧ ∀ j : Nat, j < n → cell.slots[j]? = some (arG g j) := by
  by_cases ht : t < 5
  · obtain ⟨h1, h2⟩ := h.mine ha (by simp [ceOwn, ht])
    obtain ⟨x, e1, e2⟩ := vp_cv (ids := ids) t n g
    rw [e1] at h2
    have h3 : H[a]? = some (vp_cell (ids t) x) := h2
    rw [e2] at h3
    exact ⟨_, h3, (hK.2 t _ (tysL_at ht)).1 n (arG g), (fun q => by cases q), arrV_size _ _ _, fun j hj => arrV_read _ _ hj⟩
  · obtain ⟨h1, ⟨cell, q1, q2, q3, -, -, q6, -⟩, cell2, q7, q8⟩ := h.ro ha (by simp [ceOwn, ht])
    have e : cell2 = cell := Option.some.inj (q7.symm.trans q1)
    subst e
    exact ⟨_, by rw [h.old h1]; exact q1, State.isArrayOf_alike hS.1.alike q2, q3, q8, q6⟩
end ES
