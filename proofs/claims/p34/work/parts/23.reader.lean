/-! what stands since before: the constants -/
def formL : Nat → List Nat := fun k => match k with
  | 0 => [102, 111, 114, 116]
  | 1 => [114, 111, 97, 100, 32, 70, 45, 70, 32, 68, 63]
  | 2 => [99, 117, 116, 32, 70, 45, 70]
  | 3 => [109, 117, 116, 101, 32, 70]
  | 4 => [111, 112, 101, 110, 32, 70]
  | 5 => [119, 97, 121, 32, 68]
  | 6 => [98, 111, 117, 110, 100, 32, 68]
  | 7 => [100, 97, 121, 32, 68, 63]
  | _ => [112, 111, 115, 116, 32, 70, 45, 70]
def textL : Nat → List Nat := fun k => match k with
  | 0 => [102, 111, 114, 116]
  | 1 => [114, 111, 97, 100, 32, 97, 45, 98, 32, 53]
  | 2 => [114, 111, 97, 100, 32, 98, 45, 99, 32, 48, 51, 59, 114, 111, 97, 100, 32, 97, 45, 99, 32, 57]
  | 3 => [99, 117, 116, 32, 97, 45, 98]
  | 4 => [99, 117, 116, 32, 98, 45, 97, 59, 99, 117, 116, 32, 97, 45, 98]
  | 5 => [109, 117, 116, 101, 32, 97]
  | 6 => [109, 117, 116, 101, 32, 98, 59, 111, 112, 101, 110, 32, 98]
  | 7 => [111, 112, 101, 110, 32, 97]
  | 8 => [119, 97, 121, 32, 50]
  | 9 => [119, 97, 121, 32, 48, 59, 98, 111, 117, 110, 100, 32, 51]
  | 10 => [98, 111, 117, 110, 100, 32, 56, 59, 119, 97, 121, 32, 49]
  | 11 => [100, 97, 121, 32, 49]
  | 12 => [100, 97, 121, 32, 48, 53, 59, 100, 97, 121, 32, 49]
  | 13 => [112, 111, 115, 116, 32, 97, 45, 98]
  | 14 => [112, 111, 115, 116, 32, 97, 45, 99, 59, 100, 97, 121, 32, 51]
  | 15 => [112, 111, 115, 116, 32, 97, 45, 97]
  | 16 => [100, 97, 121, 32, 48]
  | 17 => [119, 97, 121, 32, 51]
  | 18 => [98, 111, 117, 110, 100, 32, 57]
  | 19 => [114, 111, 97, 100, 32, 97, 45, 97, 32, 49]
  | 20 => [99, 117, 116, 32, 103, 45, 104]
  | _ => [114, 111, 97, 100, 32, 97, 45, 98, 32, 49, 54]
def isSv (f : Fm) (a v : Nat) (L : List Nat) : Prop := f a = some (.inr (13, [.ref v, .int (nI 0)])) ∧ f v = some (.inl (8, L.length, .inl (rw1 (fun j => L.getD j 0))))
def csF (V : Nat → Nat) (f : Fm) (w : Nat) : Prop := (∀ k, V k < w) ∧ isDg V f ∧ f (V 3) = some (.inl (5, 9, .inr (fun i => if i < 9 then some (V (10 + i)) else none))) ∧ f (V 4) = some (.inl (7, 9, .inl (rw1 (fun j => if j < 8 then j + 1 else 0)))) ∧ f (V 5) = some (.inl (6, 22, .inr (fun i => if i < 22 then some (V (40 + i)) else none))) ∧ (∀ k, k < 9 → f (V (10 + k)) = some (.inr (12, [.ref (V (20 + k)), .int (nI k)])) ∧ isSv f (V (20 + k)) (V (30 + k)) (formL k)) ∧ ∀ k, k < 22 → isSv f (V (40 + k)) (V (70 + k)) (textL k)
theorem formL_ok : ∀ k, k < 9 → 0 < (formL k).length ∧ (formL k).length < 20 ∧ ∀ j, (formL k).getD j 0 < 128 := by
  have q : ∀ k : Fin 9, 0 < (formL k.val).length ∧ (formL k.val).length < 20 ∧ ∀ c ∈ formL k.val, c < 128 := by decide +kernel
  intro k hk
  obtain ⟨q1, q2, q3⟩ := q ⟨k, hk⟩
  refine ⟨q1, q2, fun j => ?_⟩
  by_cases h : j < (formL k).length
  · rw [List.getD_eq_getElem?_getD, List.getElem?_eq_getElem h]
    exact q3 _ (List.getElem_mem h)
  · rw [List.getD_eq_getElem?_getD, List.getElem?_eq_none (by omega)]
    exact Nat.zero_lt_succ _
theorem textL_ok : ∀ k, k < 22 → (textL k).length < 23 ∧ ∀ j, (textL k).getD j 0 < 127 := by
  have q : ∀ k : Fin 22, (textL k.val).length < 23 ∧ ∀ c ∈ textL k.val, c < 127 := by decide +kernel
  intro k hk
  obtain ⟨q2, q3⟩ := q ⟨k, hk⟩
  refine ⟨q2, fun j => ?_⟩
  by_cases h : j < (textL k).length
  · rw [List.getD_eq_getElem?_getD, List.getElem?_eq_getElem h]
    exact q3 _ (List.getElem_mem h)
  · rw [List.getD_eq_getElem?_getD, List.getElem?_eq_none (by omega)]
    exact Nat.zero_lt_succ _
theorem isSv.fr {f f' : Fm} {a v w : Nat} {L : List Nat} (h : isSv f a v L) (ha : a < w) (hv : v < w) (hq : ∀ q, q < w → f' q = f q) : isSv f' a v L := ⟨(hq _ ha).trans h.1, (hq _ hv).trans h.2⟩
theorem csF.fr {V : Nat → Nat} {f f' : Fm} {w : Nat} (h : csF V f w) (hq : ∀ q, q < w → f' q = f q) : csF V f' w := by
  obtain ⟨h1, h2, h3, h4, h5, h6, h7⟩ := h
  exact ⟨h1, ⟨(hq _ (h1 _)).trans h2.1, (hq _ (h1 _)).trans h2.2⟩, (hq _ (h1 _)).trans h3, (hq _ (h1 _)).trans h4, (hq _ (h1 _)).trans h5, fun k hk => ⟨(hq _ (h1 _)).trans (h6 k hk).1, (h6 k hk).2.fr (h1 _) (h1 _) hq⟩, fun k hk => (h7 k hk).fr (h1 _) (h1 _) hq⟩
theorem csF.mono {V : Nat → Nat} {f : Fm} {w w' : Nat} (h : csF V f w) (hw : w ≤ w') : csF V f w' := ⟨fun k => Nat.lt_of_lt_of_le (h.1 k) hw, h.2⟩
theorem csF.form {V : Nat → Nat} {f : Fm} {w k : Nat} (h : csF V f w) (hk : k < 9) : isSt f (V (20 + k)) (formL k) := ⟨_, (h.2.2.2.2.2.1 k hk).2.1, (h.2.2.2.2.2.1 k hk).2.2, by have := (formL_ok k hk).2.1; omega, (formL_ok k hk).2.2⟩
theorem csF.text {V : Nat → Nat} {f : Fm} {w k : Nat} (h : csF V f w) (hk : k < 22) : isSt f (V (40 + k)) (textL k) := ⟨_, (h.2.2.2.2.2.2 k hk).1, (h.2.2.2.2.2.2 k hk).2, by have := (textL_ok k hk).1; omega, fun j => Nat.lt_succ_of_lt ((textL_ok k hk).2 j)⟩
/-! Reader: the model -/
abbrev Rs : Type := Nat → Nat
/-- 0 at, 1 kind, 2 one, 3 other, 4 number, 5 hasOne -/
def isRr (V : Nat → Nat) (f : Fm) (a tb : Nat) (s : Rs) : Prop := f a = some (.inr (6, [.ref tb, .int (nI (s 0)), .ref (V (10 + s 1)), .int (nI (s 2)), .int (nI (s 3)), .int (nI (s 4)), .int (nI (s 5))]))
abbrev inN (T : List Nat) (p lo hi : Nat) : Prop := p < T.length ∧ lo ≤ T.getD p 0 ∧ T.getD p 0 ≤ hi
def rFt (T : List Nat) (s : Rs) : Nat × Rs := if inN T (s 0) 97 104 then (1, hup (hup (hup s (if s 5 = 0 then 2 else 3) (T.getD (s 0) 0 - 97)) 5 1) 0 (s 0 + 1)) else (0, s)
def rDg (T : List Nat) (s : Rs) : Nat × Rs := if inN T (s 0) 48 57 then (1, hup (hup s 4 (10 * s 4 + T.getD (s 0) 0 - 48)) 0 (s 0 + 1)) else (0, s)
def rSk (T : List Nat) (c : Nat) (s : Rs) : Nat × Rs := if inN T (s 0) c c then (1, hup s 0 (s 0 + 1)) else (0, s)
def rPt (T : List Nat) (c : Nat) (s : Rs) : Nat × Rs := if c = 70 then rFt T s else if c = 68 then rDg T s else if c = 63 then (1, (rDg T s).2) else rSk T c s
def rWd (T : List Nat) : List Nat → Rs → Nat × Rs
  | [], s => (1, s)
  | c :: F, s => if (rPt T c s).1 = 0 then (0, (rPt T c s).2) else rWd T F (rPt T c s).2
def fkD (T : List Nat) (p : Nat) : Nat → Nat
  | 0 => 9
  | m + 1 => if inN T p ((formL (8 - m)).getD 0 0) ((formL (8 - m)).getD 0 0) then 8 - m else fkD T p m
def rOr (T : List Nat) (s : Rs) : Nat × Rs := if fkD T (s 0) 9 = 9 then (0, s) else rWd T (formL (fkD T (s 0) 9)) (hup (hup (hup s 1 (fkD T (s 0) 9)) 5 0) 4 0)
/-- how many orders, 0 for a fault -/
def rCt (T : List Nat) : Nat → Nat → Rs → Nat × Rs
  | 0, _, s => (0, s)
  | m + 1, o, s => if (rOr T s).1 = 0 then (0, (rOr T s).2) else if (rOr T s).2 0 = T.length then (o, (rOr T s).2) else if (rSk T 59 (rOr T s).2).1 = 0 then (0, (rSk T 59 (rOr T s).2).2) else rCt T m (o + 1) (rSk T 59 (rOr T s).2).2
def rOk (T : List Nat) (s : Rs) : Prop := s 0 ≤ T.length ∧ s 1 < 9 ∧ s 2 < 8 ∧ s 3 < 8 ∧ s 5 < 2
theorem rFt_ok {T : List Nat} {s : Rs} (h : rOk T s) : rOk T (rFt T s).2 ∧ (rFt T s).1 < 2 := by
  unfold rFt
  by_cases q : inN T (s 0) 97 104
  · rw [if_pos q]
    obtain ⟨h0, h1, h2, h3, h5⟩ := h
    obtain ⟨q0, q1, q2⟩ := q
    refine ⟨⟨?_, ?_, ?_, ?_, ?_⟩, by show 1 < 2; omega⟩
    · show s 0 + 1 ≤ _
      omega
    · show (if 1 = (if s 5 = 0 then 2 else 3) then _ else s 1) < 9
      repeat' split
      all_goals first | omega | assumption
    · show (if 2 = (if s 5 = 0 then 2 else 3) then _ else s 2) < 8
      repeat' split
      all_goals first | omega | assumption
    · show (if 3 = (if s 5 = 0 then 2 else 3) then _ else s 3) < 8
      repeat' split
      all_goals first | omega | assumption
    · show 1 < 2
      omega
  · rw [if_neg q]
    exact ⟨h, by show 0 < 2; omega⟩
theorem rDg_ok {T : List Nat} {s : Rs} (h : rOk T s) : rOk T (rDg T s).2 ∧ (rDg T s).1 < 2 := by
  unfold rDg
  by_cases q : inN T (s 0) 48 57
  · rw [if_pos q]
    obtain ⟨h0, h1, h2, h3, h5⟩ := h
    obtain ⟨q0, q1, q2⟩ := q
    exact ⟨⟨(by omega : s 0 + 1 ≤ T.length), h1, h2, h3, h5⟩, (by omega : 1 < 2)⟩
  · rw [if_neg q]
    exact ⟨h, by show 0 < 2; omega⟩
theorem rSk_ok {T : List Nat} {c : Nat} {s : Rs} (h : rOk T s) : rOk T (rSk T c s).2 ∧ (rSk T c s).1 < 2 := by
  unfold rSk
  by_cases q : inN T (s 0) c c
  · rw [if_pos q]
    obtain ⟨h0, h1, h2, h3, h5⟩ := h
    obtain ⟨q0, q1, q2⟩ := q
    exact ⟨⟨(by omega : s 0 + 1 ≤ T.length), h1, h2, h3, h5⟩, (by omega : 1 < 2)⟩
  · rw [if_neg q]
    exact ⟨h, by show 0 < 2; omega⟩
theorem rPt_ok {T : List Nat} {c : Nat} {s : Rs} (h : rOk T s) : rOk T (rPt T c s).2 ∧ (rPt T c s).1 < 2 := by
  unfold rPt
  split
  · exact rFt_ok h
  split
  · exact rDg_ok h
  split
  · exact ⟨(rDg_ok h).1, (by omega : 1 < 2)⟩
  · exact rSk_ok h
theorem rWd_ok {T : List Nat} : ∀ (F : List Nat) {s : Rs}, rOk T s → rOk T (rWd T F s).2 ∧ (rWd T F s).1 < 2
  | [], s, h => ⟨h, (by omega : 1 < 2)⟩
  | c :: F, s, h => by
    unfold rWd
    split
    · exact ⟨(rPt_ok h).1, (by omega : 0 < 2)⟩
    · exact rWd_ok F (rPt_ok h).1
theorem fkD_lt {T : List Nat} {p : Nat} : ∀ m, fkD T p m ≤ 9
  | 0 => Nat.le_refl _
  | m + 1 => by
    unfold fkD
    split
    · omega
    · exact fkD_lt m
theorem rOr_ok {T : List Nat} {s : Rs} (h : rOk T s) : rOk T (rOr T s).2 ∧ (rOr T s).1 < 2 := by
  unfold rOr
  have := fkD_lt (T := T) (p := s 0) 9
  by_cases q : fkD T (s 0) 9 = 9
  · rw [if_pos q]
    exact ⟨h, (by omega : 0 < 2)⟩
  · rw [if_neg q]
    refine rWd_ok _ ⟨h.1, (by omega : fkD T (s 0) 9 < 9), h.2.2.1, h.2.2.2.1, (by omega : 0 < 2)⟩
/-! Reader: the contracts -/
theorem nI_mul9 {a b : Nat} : nI a * nI b = nI (a * b) := (Int32.ofNat_mul a b).symm

def rX (V : Nat → Nat) (f : Fm) (a tb v w z0 : Nat) (T : List Nat) (s : Rs) : Prop := isRr V f a tb s ∧ rOk T s ∧ T.length < 100 ∧ (∀ j, T.getD j 0 < 128) ∧ isSB f tb v w z0 T ∧ tb ≠ a ∧ v ≠ a ∧ csF V f a
theorem rX.fr {V : Nat → Nat} {f f' : Fm} {a tb v w z0 : Nat} {T : List Nat} {s s' : Rs} (h : rX V f a tb v w z0 T s) (h1 : isRr V f' a tb s') (h2 : rOk T s') (hq : ∀ q, q ≠ a → f' q = f q) : rX V f' a tb v w z0 T s' := ⟨h1, h2, h.2.2.1, h.2.2.2.1, h.2.2.2.2.1.fr (Nat.le_refl _) (hq _ h.2.2.2.2.2.1) (hq _ h.2.2.2.2.2.2.1), h.2.2.2.2.2.1, h.2.2.2.2.2.2.1, h.2.2.2.2.2.2.2.fr (fun q h => hq q (by omega))⟩
abbrev Sp_X7_isIn (V : Nat → Nat) : Spt := fun as z f K => ∃ (a tb v w z0 lo hi : Nat) (T : List Nat) (s : Rs), as = [.ref a, .int (nI lo), .int (nI hi)] ∧ lo < 1000 ∧ hi < 1000 ∧ rX V f a tb v w z0 T s ∧ K (some (.int (nI (if inN T (s 0) lo hi then 1 else 0)))) z f
def rm_X7_isIn : Room := { frames := 4, cells := 0, slots := 0, locals := 88 }
def q_X7_isIn_49 (V : Nat → Nat) (ls : Ls) (st : List Value) (z : Zz) (f : Fm) (E : Ej) (R : Kr) : Prop := xret .boolean ls st z f E R
def q_X7_isIn_48 (V : Nat → Nat) (ls : Ls) (st : List Value) (z : Zz) (f : Fm) (E : Ej) (R : Kr) : Prop := xpush (.int (nI 0)) (q_X7_isIn_49 V) ls st z f E R
def q_X7_isIn_44 (V : Nat → Nat) (ls : Ls) (st : List Value) (z : Zz) (f : Fm) (E : Ej) (R : Kr) : Prop := xpush (.int (nI 1)) (q_X7_isIn_49 V) ls st z f E R
def q_X7_isIn_41 (V : Nat → Nat) (ls : Ls) (st : List Value) (z : Zz) (f : Fm) (E : Ej) (R : Kr) : Prop := xicmp (fun x y => y < x) (xs 48) (q_X7_isIn_44 V) ls st z f E R
def q_X7_isIn_40 (V : Nat → Nat) (ls : Ls) (st : List Value) (z : Zz) (f : Fm) (E : Ej) (R : Kr) : Prop := xiload 2 (q_X7_isIn_41 V) ls st z f E R
def q_X7_isIn_37 (V : Nat → Nat) (ls : Ls) (st : List Value) (z : Zz) (f : Fm) (E : Ej) (R : Kr) : Prop := xcall 2 1 Sp_J4_charAt_5068e 0 0 (q_X7_isIn_40 V) ls st z f E R
def q_X7_isIn_34 (V : Nat → Nat) (ls : Ls) (st : List Value) (z : Zz) (f : Fm) (E : Ej) (R : Kr) : Prop := xget 6 1 (q_X7_isIn_37 V) ls st z f E R
def q_X7_isIn_33 (V : Nat → Nat) (ls : Ls) (st : List Value) (z : Zz) (f : Fm) (E : Ej) (R : Kr) : Prop := xaload 0 (q_X7_isIn_34 V) ls st z f E R
def q_X7_isIn_30 (V : Nat → Nat) (ls : Ls) (st : List Value) (z : Zz) (f : Fm) (E : Ej) (R : Kr) : Prop := xget 6 0 (q_X7_isIn_33 V) ls st z f E R
def q_X7_isIn_29 (V : Nat → Nat) (ls : Ls) (st : List Value) (z : Zz) (f : Fm) (E : Ej) (R : Kr) : Prop := xaload 0 (q_X7_isIn_30 V) ls st z f E R
def q_X7_isIn_26 (V : Nat → Nat) (ls : Ls) (st : List Value) (z : Zz) (f : Fm) (E : Ej) (R : Kr) : Prop := xicmp (fun x y => x < y) (xs 48) (q_X7_isIn_29 V) ls st z f E R
def q_X7_isIn_25 (V : Nat → Nat) (ls : Ls) (st : List Value) (z : Zz) (f : Fm) (E : Ej) (R : Kr) : Prop := xiload 1 (q_X7_isIn_26 V) ls st z f E R
def q_X7_isIn_22 (V : Nat → Nat) (ls : Ls) (st : List Value) (z : Zz) (f : Fm) (E : Ej) (R : Kr) : Prop := xcall 2 1 Sp_J4_charAt_5068e 0 0 (q_X7_isIn_25 V) ls st z f E R
def q_X7_isIn_19 (V : Nat → Nat) (ls : Ls) (st : List Value) (z : Zz) (f : Fm) (E : Ej) (R : Kr) : Prop := xget 6 1 (q_X7_isIn_22 V) ls st z f E R
def q_X7_isIn_18 (V : Nat → Nat) (ls : Ls) (st : List Value) (z : Zz) (f : Fm) (E : Ej) (R : Kr) : Prop := xaload 0 (q_X7_isIn_19 V) ls st z f E R
def q_X7_isIn_15 (V : Nat → Nat) (ls : Ls) (st : List Value) (z : Zz) (f : Fm) (E : Ej) (R : Kr) : Prop := xget 6 0 (q_X7_isIn_18 V) ls st z f E R
def q_X7_isIn_14 (V : Nat → Nat) (ls : Ls) (st : List Value) (z : Zz) (f : Fm) (E : Ej) (R : Kr) : Prop := xaload 0 (q_X7_isIn_15 V) ls st z f E R
def q_X7_isIn_11 (V : Nat → Nat) (ls : Ls) (st : List Value) (z : Zz) (f : Fm) (E : Ej) (R : Kr) : Prop := xicmp (fun x y => y ≤ x) (xs 48) (q_X7_isIn_14 V) ls st z f E R
def q_X7_isIn_8 (V : Nat → Nat) (ls : Ls) (st : List Value) (z : Zz) (f : Fm) (E : Ej) (R : Kr) : Prop := xcall 1 1 Sp_J4_length_8abf5 0 0 (q_X7_isIn_11 V) ls st z f E R
def q_X7_isIn_5 (V : Nat → Nat) (ls : Ls) (st : List Value) (z : Zz) (f : Fm) (E : Ej) (R : Kr) : Prop := xget 6 0 (q_X7_isIn_8 V) ls st z f E R
def q_X7_isIn_4 (V : Nat → Nat) (ls : Ls) (st : List Value) (z : Zz) (f : Fm) (E : Ej) (R : Kr) : Prop := xaload 0 (q_X7_isIn_5 V) ls st z f E R
def q_X7_isIn_1 (V : Nat → Nat) (ls : Ls) (st : List Value) (z : Zz) (f : Fm) (E : Ej) (R : Kr) : Prop := xget 6 1 (q_X7_isIn_4 V) ls st z f E R
def q_X7_isIn_0 (V : Nat → Nat) (ls : Ls) (st : List Value) (z : Zz) (f : Fm) (E : Ej) (R : Kr) : Prop := xaload 0 (q_X7_isIn_1 V) ls st z f E R
set_option maxRecDepth 100000 in
theorem t_X7_isIn {s0 : State} {D : va_G} {ids : Nat → ClassId} {V : Nat → Nat} {l : Launch} {K : Kr} {E : Ej} (G : GG s0 D ids V) (X : EnX s0 D ids l RX7 cX7_isIn 3 (some .boolean) "isIn" rm_X7_isIn K E) : Sd E K 0 (q_X7_isIn_0 V) ∧ Sd E K 48 (q_X7_isIn_48 V) := by
  have h49 : Sd E K 49 (q_X7_isIn_49 V) := sd_ret X (by decide +kernel : decode cX7_isIn 49 = .ok (.ireturn, 1))
  have h48 : Sd E K 48 (q_X7_isIn_48 V) := sd_iconst X (by decide +kernel : decode cX7_isIn 48 = .ok (.iconst 0, 1)) (by decide +kernel) h49
  have h45 : Sd E K 45 (q_X7_isIn_49 V) := sd_goto X (by decide +kernel : decode cX7_isIn 45 = .ok (.goto 4, 3)) (by decide) h49
  have h44 : Sd E K 44 (q_X7_isIn_44 V) := sd_iconst X (by decide +kernel : decode cX7_isIn 44 = .ok (.iconst 1, 1)) (by decide +kernel) h45
  have h41 : Sd E K 41 (q_X7_isIn_41 V) := sd_icmp_gt X (by decide +kernel : decode cX7_isIn 41 = .ok (.if_icmp .gt 7, 3)) (by decide) (sd_s 48) h44
  have h40 : Sd E K 40 (q_X7_isIn_40 V) := sd_iload_n X (by decide +kernel : decode cX7_isIn 40 = .ok (.iload_n 2, 1)) rfl h41
  have h37 : Sd E K 37 (q_X7_isIn_37 V) := sd_callV (n := 1) (ci := 0) X (ct_J4_charAt_5068e G) (by decide +kernel : decode cX7_isIn 37 = .ok (.invokevirtual 90, 3)) wd_662 wd_659 wd_660 wd_661 wd_36 (by decide +kernel) (Or.inl ⟨by decide, _, _, rfl⟩) ⟨Nat.le_of_ble_eq_true rfl, Nat.le_of_ble_eq_true rfl⟩ h40
  have h34 : Sd E K 34 (q_X7_isIn_34 V) := sd_get X (by decide +kernel : decode cX7_isIn 34 = .ok (.getfield 18, 3)) ok_X7 (Nat.le_of_ble_eq_true rfl) wd_346 h37
  have h33 : Sd E K 33 (q_X7_isIn_33 V) := sd_aload_n X (by decide +kernel : decode cX7_isIn 33 = .ok (.aload_n 0, 1)) rfl h34
  have h30 : Sd E K 30 (q_X7_isIn_30 V) := sd_get X (by decide +kernel : decode cX7_isIn 30 = .ok (.getfield 12, 3)) ok_X7 (Nat.le_of_ble_eq_true rfl) wd_344 h33
  have h29 : Sd E K 29 (q_X7_isIn_29 V) := sd_aload_n X (by decide +kernel : decode cX7_isIn 29 = .ok (.aload_n 0, 1)) rfl h30
  have h26 : Sd E K 26 (q_X7_isIn_26 V) := sd_icmp_lt X (by decide +kernel : decode cX7_isIn 26 = .ok (.if_icmp .lt 22, 3)) (by decide) (sd_s 48) h29
  have h25 : Sd E K 25 (q_X7_isIn_25 V) := sd_iload_n X (by decide +kernel : decode cX7_isIn 25 = .ok (.iload_n 1, 1)) rfl h26
  have h22 : Sd E K 22 (q_X7_isIn_22 V) := sd_callV (n := 1) (ci := 0) X (ct_J4_charAt_5068e G) (by decide +kernel : decode cX7_isIn 22 = .ok (.invokevirtual 90, 3)) wd_662 wd_659 wd_660 wd_661 wd_36 (by decide +kernel) (Or.inl ⟨by decide, _, _, rfl⟩) ⟨Nat.le_of_ble_eq_true rfl, Nat.le_of_ble_eq_true rfl⟩ h25
  have h19 : Sd E K 19 (q_X7_isIn_19 V) := sd_get X (by decide +kernel : decode cX7_isIn 19 = .ok (.getfield 18, 3)) ok_X7 (Nat.le_of_ble_eq_true rfl) wd_346 h22
  have h18 : Sd E K 18 (q_X7_isIn_18 V) := sd_aload_n X (by decide +kernel : decode cX7_isIn 18 = .ok (.aload_n 0, 1)) rfl h19
  have h15 : Sd E K 15 (q_X7_isIn_15 V) := sd_get X (by decide +kernel : decode cX7_isIn 15 = .ok (.getfield 12, 3)) ok_X7 (Nat.le_of_ble_eq_true rfl) wd_344 h18
  have h14 : Sd E K 14 (q_X7_isIn_14 V) := sd_aload_n X (by decide +kernel : decode cX7_isIn 14 = .ok (.aload_n 0, 1)) rfl h15
  have h11 : Sd E K 11 (q_X7_isIn_11 V) := sd_icmp_ge X (by decide +kernel : decode cX7_isIn 11 = .ok (.if_icmp .ge 37, 3)) (by decide) (sd_s 48) h14
  have h8 : Sd E K 8 (q_X7_isIn_8 V) := sd_callV (n := 0) (ci := 0) X (ct_J4_length_8abf5 G) (by decide +kernel : decode cX7_isIn 8 = .ok (.invokevirtual 48, 3)) wd_655 wd_652 wd_653 wd_654 wd_36 (by decide +kernel) (Or.inl ⟨by decide, _, _, rfl⟩) ⟨Nat.le_of_ble_eq_true rfl, Nat.le_of_ble_eq_true rfl⟩ h11
  have h5 : Sd E K 5 (q_X7_isIn_5 V) := sd_get X (by decide +kernel : decode cX7_isIn 5 = .ok (.getfield 12, 3)) ok_X7 (Nat.le_of_ble_eq_true rfl) wd_344 h8
  have h4 : Sd E K 4 (q_X7_isIn_4 V) := sd_aload_n X (by decide +kernel : decode cX7_isIn 4 = .ok (.aload_n 0, 1)) rfl h5
  have h1 : Sd E K 1 (q_X7_isIn_1 V) := sd_get X (by decide +kernel : decode cX7_isIn 1 = .ok (.getfield 18, 3)) ok_X7 (Nat.le_of_ble_eq_true rfl) wd_346 h4
  have h0 : Sd E K 0 (q_X7_isIn_0 V) := sd_aload_n X (by decide +kernel : decode cX7_isIn 0 = .ok (.aload_n 0, 1)) rfl h1
  exact ⟨h0, h48⟩
set_option maxHeartbeats 4000000 in
set_option maxRecDepth 100000 in
theorem ct_X7_isIn {s0 : State} {D : va_G} {ids : Nat → ClassId} {V : Nat → Nat} {l : Launch} (G : GG s0 D ids V) : CT s0 D ids l yX7_isIn cX7_isIn 3 (some .boolean) rm_X7_isIn (Sp_X7_isIn V) := CT.of (by decide +kernel) G.k (by
  rintro as z f K E ⟨a, tb, v, w, z0, lo, hi, T, s, rfl, hlo, hhi, ⟨hR, hO, hT, hc, hB, n1, n2, hV⟩, hK⟩ X
  obtain ⟨t0, t48⟩ := t_X7_isIn G X
  refine ⟨Nat.le_of_ble_eq_true rfl, by simp [Value.category], t0 _ _ _ _ ?_⟩
  obtain ⟨cap, lt, b, i1, -⟩ := id hB
  have hs0 := hO.1
  have hcs := hc (s 0)
  unfold isRr at hR
  simp (disch := omega) only [q_X7_isIn_0, q_X7_isIn_1, q_X7_isIn_4, q_X7_isIn_5, q_X7_isIn_8, q_X7_isIn_11, q_X7_isIn_14, q_X7_isIn_15, q_X7_isIn_18, q_X7_isIn_19, q_X7_isIn_22, q_X7_isIn_25, q_X7_isIn_26, q_X7_isIn_29, q_X7_isIn_30, q_X7_isIn_33, q_X7_isIn_34, q_X7_isIn_37, q_X7_isIn_40, q_X7_isIn_41, q_X7_isIn_44, q_X7_isIn_48, q_X7_isIn_49, xpush, xiload, xaload, xlload, xfload, xdload, lkill, xistore, xastore, xfstore, xlstore, xdstore, xiinc, xbin, xdiv, xun, xlbin, xi2l, xi2f, xi2d, xlcmp, xfcmp, xdcmp, xfdiv, xddiv, c1, xdup, xpop, xdup_x1, xdup2, xif, xicmp, xtab, xtabL, xget, xput, xald, xast, xalen, xnew, xnewa, c1s, recvOk, xcall, kont, xret, xlret, xfret, xdret, xaret, xvret, xs, xnewq, xastq, xcopy, xcopyF, xobj, xmax, xmin, xdead, xpushq, xmna, ls0, List.map_cons, List.map_nil, List.length_cons, List.length_nil, List.replicate, List.append_nil, List.cons_append, List.nil_append, List.getElem?_cons_zero, List.getElem?_cons_succ, List.getElem?_nil, List.set_cons_zero, List.set_cons_succ, List.take_succ_cons, List.take_zero, List.drop_succ_cons, List.drop_zero, List.reverse_cons, List.reverse_nil, List.sum_cons, List.sum_nil, Value.category, Option.toList_some, Option.toList_none, Nat.reduceAdd, Nat.reduceSub, Nat.reduceLT, Nat.reduceLeDiff, Nat.zero_add, Nat.le_refl, true_and, and_true, Nat.sub_zero, Nat.zero_lt_succ, Nat.zero_le, Nat.not_lt_zero, Nat.reduceEqDiff, Nat.one_ne_zero, nI_toInt, Int.reduceEq, Int.reduceAdd, Int.reduceLT, Int.reduceLE, Int.cast_ofNat_Int, reduceIte, or_false, false_or, eq_self, or_true, true_or, or_self, nI_clamp, vp_in_nI, nI_ltI, nI_leI, nI_eq, nI_add, nI_zero9, nI_nlt0, nI_le0, nI_lt0, arG, va_rf, not_false_eq_true, not_true_eq_false, false_implies, true_implies, implies_true, ne_eq, okv_int, okv_z0, okv_z1, okv_zN, okv_ref, okv_arr, okv_null, vn_z0, vn_z1, vn_zN, nr_int, nr_z, va_up_self, up_fr, rw1_j, rw1_up, hR, i1]
  refine ⟨tb, v, w, z0, T, rfl, hB, ?_⟩
  simp (disch := omega) only [q_X7_isIn_0, q_X7_isIn_1, q_X7_isIn_4, q_X7_isIn_5, q_X7_isIn_8, q_X7_isIn_11, q_X7_isIn_14, q_X7_isIn_15, q_X7_isIn_18, q_X7_isIn_19, q_X7_isIn_22, q_X7_isIn_25, q_X7_isIn_26, q_X7_isIn_29, q_X7_isIn_30, q_X7_isIn_33, q_X7_isIn_34, q_X7_isIn_37, q_X7_isIn_40, q_X7_isIn_41, q_X7_isIn_44, q_X7_isIn_48, q_X7_isIn_49, xpush, xiload, xaload, xlload, xfload, xdload, lkill, xistore, xastore, xfstore, xlstore, xdstore, xiinc, xbin, xdiv, xun, xlbin, xi2l, xi2f, xi2d, xlcmp, xfcmp, xdcmp, xfdiv, xddiv, c1, xdup, xpop, xdup_x1, xdup2, xif, xicmp, xtab, xtabL, xget, xput, xald, xast, xalen, xnew, xnewa, c1s, recvOk, xcall, kont, xret, xlret, xfret, xdret, xaret, xvret, xs, xnewq, xastq, xcopy, xcopyF, xobj, xmax, xmin, xdead, xpushq, xmna, ls0, List.map_cons, List.map_nil, List.length_cons, List.length_nil, List.replicate, List.append_nil, List.cons_append, List.nil_append, List.getElem?_cons_zero, List.getElem?_cons_succ, List.getElem?_nil, List.set_cons_zero, List.set_cons_succ, List.take_succ_cons, List.take_zero, List.drop_succ_cons, List.drop_zero, List.reverse_cons, List.reverse_nil, List.sum_cons, List.sum_nil, Value.category, Option.toList_some, Option.toList_none, Nat.reduceAdd, Nat.reduceSub, Nat.reduceLT, Nat.reduceLeDiff, Nat.zero_add, Nat.le_refl, true_and, and_true, Nat.sub_zero, Nat.zero_lt_succ, Nat.zero_le, Nat.not_lt_zero, Nat.reduceEqDiff, Nat.one_ne_zero, nI_toInt, Int.reduceEq, Int.reduceAdd, Int.reduceLT, Int.reduceLE, Int.cast_ofNat_Int, reduceIte, or_false, false_or, eq_self, or_true, true_or, or_self, nI_clamp, vp_in_nI, nI_ltI, nI_leI, nI_eq, nI_add, nI_zero9, nI_nlt0, nI_le0, nI_lt0, arG, va_rf, not_false_eq_true, not_true_eq_false, false_implies, true_implies, implies_true, ne_eq, okv_int, okv_z0, okv_z1, okv_zN, okv_ref, okv_arr, okv_null, vn_z0, vn_z1, vn_zN, nr_int, nr_z, va_up_self, up_fr, rw1_j, rw1_up, hR, i1]
  have e48 : ¬ inN T (s 0) lo hi → E 48 [some (.ref a), some (.int (nI lo)), some (.int (nI hi))] [] (z, 0, 0) f := fun q => by
    rw [if_neg q] at hK
    refine t48 _ _ _ _ ?_
    simp (disch := omega) only [q_X7_isIn_0, q_X7_isIn_1, q_X7_isIn_4, q_X7_isIn_5, q_X7_isIn_8, q_X7_isIn_11, q_X7_isIn_14, q_X7_isIn_15, q_X7_isIn_18, q_X7_isIn_19, q_X7_isIn_22, q_X7_isIn_25, q_X7_isIn_26, q_X7_isIn_29, q_X7_isIn_30, q_X7_isIn_33, q_X7_isIn_34, q_X7_isIn_37, q_X7_isIn_40, q_X7_isIn_41, q_X7_isIn_44, q_X7_isIn_48, q_X7_isIn_49, xpush, xiload, xaload, xlload, xfload, xdload, lkill, xistore, xastore, xfstore, xlstore, xdstore, xiinc, xbin, xdiv, xun, xlbin, xi2l, xi2f, xi2d, xlcmp, xfcmp, xdcmp, xfdiv, xddiv, c1, xdup, xpop, xdup_x1, xdup2, xif, xicmp, xtab, xtabL, xget, xput, xald, xast, xalen, xnew, xnewa, c1s, recvOk, xcall, kont, xret, xlret, xfret, xdret, xaret, xvret, xs, xnewq, xastq, xcopy, xcopyF, xobj, xmax, xmin, xdead, xpushq, xmna, ls0, List.map_cons, List.map_nil, List.length_cons, List.length_nil, List.replicate, List.append_nil, List.cons_append, List.nil_append, List.getElem?_cons_zero, List.getElem?_cons_succ, List.getElem?_nil, List.set_cons_zero, List.set_cons_succ, List.take_succ_cons, List.take_zero, List.drop_succ_cons, List.drop_zero, List.reverse_cons, List.reverse_nil, List.sum_cons, List.sum_nil, Value.category, Option.toList_some, Option.toList_none, Nat.reduceAdd, Nat.reduceSub, Nat.reduceLT, Nat.reduceLeDiff, Nat.zero_add, Nat.le_refl, true_and, and_true, Nat.sub_zero, Nat.zero_lt_succ, Nat.zero_le, Nat.not_lt_zero, Nat.reduceEqDiff, Nat.one_ne_zero, nI_toInt, Int.reduceEq, Int.reduceAdd, Int.reduceLT, Int.reduceLE, Int.cast_ofNat_Int, reduceIte, or_false, false_or, eq_self, or_true, true_or, or_self, nI_clamp, vp_in_nI, nI_ltI, nI_leI, nI_eq, nI_add, nI_zero9, nI_nlt0, nI_le0, nI_lt0, arG, va_rf, not_false_eq_true, not_true_eq_false, false_implies, true_implies, implies_true, ne_eq, okv_int, okv_z0, okv_z1, okv_zN, okv_ref, okv_arr, okv_null, vn_z0, vn_z1, vn_zN, nr_int, nr_z, va_up_self, up_fr, rw1_j, rw1_up]
    exact hK
  refine ⟨fun q => e48 (by omega), fun q => ?_⟩
  refine ⟨tb, v, w, z0, s 0, T, rfl, by omega, hB, ?_⟩
  simp (disch := omega) only [q_X7_isIn_0, q_X7_isIn_1, q_X7_isIn_4, q_X7_isIn_5, q_X7_isIn_8, q_X7_isIn_11, q_X7_isIn_14, q_X7_isIn_15, q_X7_isIn_18, q_X7_isIn_19, q_X7_isIn_22, q_X7_isIn_25, q_X7_isIn_26, q_X7_isIn_29, q_X7_isIn_30, q_X7_isIn_33, q_X7_isIn_34, q_X7_isIn_37, q_X7_isIn_40, q_X7_isIn_41, q_X7_isIn_44, q_X7_isIn_48, q_X7_isIn_49, xpush, xiload, xaload, xlload, xfload, xdload, lkill, xistore, xastore, xfstore, xlstore, xdstore, xiinc, xbin, xdiv, xun, xlbin, xi2l, xi2f, xi2d, xlcmp, xfcmp, xdcmp, xfdiv, xddiv, c1, xdup, xpop, xdup_x1, xdup2, xif, xicmp, xtab, xtabL, xget, xput, xald, xast, xalen, xnew, xnewa, c1s, recvOk, xcall, kont, xret, xlret, xfret, xdret, xaret, xvret, xs, xnewq, xastq, xcopy, xcopyF, xobj, xmax, xmin, xdead, xpushq, xmna, ls0, List.map_cons, List.map_nil, List.length_cons, List.length_nil, List.replicate, List.append_nil, List.cons_append, List.nil_append, List.getElem?_cons_zero, List.getElem?_cons_succ, List.getElem?_nil, List.set_cons_zero, List.set_cons_succ, List.take_succ_cons, List.take_zero, List.drop_succ_cons, List.drop_zero, List.reverse_cons, List.reverse_nil, List.sum_cons, List.sum_nil, Value.category, Option.toList_some, Option.toList_none, Nat.reduceAdd, Nat.reduceSub, Nat.reduceLT, Nat.reduceLeDiff, Nat.zero_add, Nat.le_refl, true_and, and_true, Nat.sub_zero, Nat.zero_lt_succ, Nat.zero_le, Nat.not_lt_zero, Nat.reduceEqDiff, Nat.one_ne_zero, nI_toInt, Int.reduceEq, Int.reduceAdd, Int.reduceLT, Int.reduceLE, Int.cast_ofNat_Int, reduceIte, or_false, false_or, eq_self, or_true, true_or, or_self, nI_clamp, vp_in_nI, nI_ltI, nI_leI, nI_eq, nI_add, nI_zero9, nI_nlt0, nI_le0, nI_lt0, arG, va_rf, not_false_eq_true, not_true_eq_false, false_implies, true_implies, implies_true, ne_eq, okv_int, okv_z0, okv_z1, okv_zN, okv_ref, okv_arr, okv_null, vn_z0, vn_z1, vn_zN, nr_int, nr_z, va_up_self, up_fr, rw1_j, rw1_up, hR, i1]
  refine ⟨fun q1 => e48 (by omega), fun q1 => ?_⟩
  refine ⟨tb, v, w, z0, s 0, T, rfl, by omega, hB, ?_⟩
  simp (disch := omega) only [q_X7_isIn_0, q_X7_isIn_1, q_X7_isIn_4, q_X7_isIn_5, q_X7_isIn_8, q_X7_isIn_11, q_X7_isIn_14, q_X7_isIn_15, q_X7_isIn_18, q_X7_isIn_19, q_X7_isIn_22, q_X7_isIn_25, q_X7_isIn_26, q_X7_isIn_29, q_X7_isIn_30, q_X7_isIn_33, q_X7_isIn_34, q_X7_isIn_37, q_X7_isIn_40, q_X7_isIn_41, q_X7_isIn_44, q_X7_isIn_48, q_X7_isIn_49, xpush, xiload, xaload, xlload, xfload, xdload, lkill, xistore, xastore, xfstore, xlstore, xdstore, xiinc, xbin, xdiv, xun, xlbin, xi2l, xi2f, xi2d, xlcmp, xfcmp, xdcmp, xfdiv, xddiv, c1, xdup, xpop, xdup_x1, xdup2, xif, xicmp, xtab, xtabL, xget, xput, xald, xast, xalen, xnew, xnewa, c1s, recvOk, xcall, kont, xret, xlret, xfret, xdret, xaret, xvret, xs, xnewq, xastq, xcopy, xcopyF, xobj, xmax, xmin, xdead, xpushq, xmna, ls0, List.map_cons, List.map_nil, List.length_cons, List.length_nil, List.replicate, List.append_nil, List.cons_append, List.nil_append, List.getElem?_cons_zero, List.getElem?_cons_succ, List.getElem?_nil, List.set_cons_zero, List.set_cons_succ, List.take_succ_cons, List.take_zero, List.drop_succ_cons, List.drop_zero, List.reverse_cons, List.reverse_nil, List.sum_cons, List.sum_nil, Value.category, Option.toList_some, Option.toList_none, Nat.reduceAdd, Nat.reduceSub, Nat.reduceLT, Nat.reduceLeDiff, Nat.zero_add, Nat.le_refl, true_and, and_true, Nat.sub_zero, Nat.zero_lt_succ, Nat.zero_le, Nat.not_lt_zero, Nat.reduceEqDiff, Nat.one_ne_zero, nI_toInt, Int.reduceEq, Int.reduceAdd, Int.reduceLT, Int.reduceLE, Int.cast_ofNat_Int, reduceIte, or_false, false_or, eq_self, or_true, true_or, or_self, nI_clamp, vp_in_nI, nI_ltI, nI_leI, nI_eq, nI_add, nI_zero9, nI_nlt0, nI_le0, nI_lt0, arG, va_rf, not_false_eq_true, not_true_eq_false, false_implies, true_implies, implies_true, ne_eq, okv_int, okv_z0, okv_z1, okv_zN, okv_ref, okv_arr, okv_null, vn_z0, vn_z1, vn_zN, nr_int, nr_z, va_up_self, up_fr, rw1_j, rw1_up, hR, i1]
  refine ⟨fun q2 => e48 (by omega), fun q2 => ?_⟩
  rw [if_pos (by omega)] at hK
  exact hK)
abbrev Sp_X7_skip (V : Nat → Nat) : Spt := fun as z f K => ∃ (a tb v w z0 c : Nat) (T : List Nat) (s : Rs), as = [.ref a, .int (nI c)] ∧ c < 1000 ∧ rX V f a tb v w z0 T s ∧ ∀ f', isRr V f' a tb (rSk T c s).2 → (∀ q, q ≠ a → f' q = f q) → K (some (.int (nI (rSk T c s).1))) z f'
def rm_X7_skip : Room := { frames := 5, cells := 0, slots := 0, locals := 110 }
def q_X7_skip_22 (V : Nat → Nat) (ls : Ls) (st : List Value) (z : Zz) (f : Fm) (E : Ej) (R : Kr) : Prop := xret .boolean ls st z f E R
def q_X7_skip_21 (V : Nat → Nat) (ls : Ls) (st : List Value) (z : Zz) (f : Fm) (E : Ej) (R : Kr) : Prop := xpush (.int (nI 1)) (q_X7_skip_22 V) ls st z f E R
def q_X7_skip_18 (V : Nat → Nat) (ls : Ls) (st : List Value) (z : Zz) (f : Fm) (E : Ej) (R : Kr) : Prop := xput 6 1 .int (q_X7_skip_21 V) ls st z f E R
def q_X7_skip_17 (V : Nat → Nat) (ls : Ls) (st : List Value) (z : Zz) (f : Fm) (E : Ej) (R : Kr) : Prop := xbin (fun x y => x + y) (q_X7_skip_18 V) ls st z f E R
def q_X7_skip_16 (V : Nat → Nat) (ls : Ls) (st : List Value) (z : Zz) (f : Fm) (E : Ej) (R : Kr) : Prop := xpush (.int (nI 1)) (q_X7_skip_17 V) ls st z f E R
def q_X7_skip_13 (V : Nat → Nat) (ls : Ls) (st : List Value) (z : Zz) (f : Fm) (E : Ej) (R : Kr) : Prop := xget 6 1 (q_X7_skip_16 V) ls st z f E R
def q_X7_skip_12 (V : Nat → Nat) (ls : Ls) (st : List Value) (z : Zz) (f : Fm) (E : Ej) (R : Kr) : Prop := xdup (q_X7_skip_13 V) ls st z f E R
def q_X7_skip_11 (V : Nat → Nat) (ls : Ls) (st : List Value) (z : Zz) (f : Fm) (E : Ej) (R : Kr) : Prop := xaload 0 (q_X7_skip_12 V) ls st z f E R
def q_X7_skip_10 (V : Nat → Nat) (ls : Ls) (st : List Value) (z : Zz) (f : Fm) (E : Ej) (R : Kr) : Prop := xret .boolean ls st z f E R
def q_X7_skip_9 (V : Nat → Nat) (ls : Ls) (st : List Value) (z : Zz) (f : Fm) (E : Ej) (R : Kr) : Prop := xpush (.int (nI 0)) (q_X7_skip_10 V) ls st z f E R
def q_X7_skip_6 (V : Nat → Nat) (ls : Ls) (st : List Value) (z : Zz) (f : Fm) (E : Ej) (R : Kr) : Prop := xif (fun x => ¬ x = 0) (q_X7_skip_11 V) (q_X7_skip_9 V) ls st z f E R
def q_X7_skip_3 (V : Nat → Nat) (ls : Ls) (st : List Value) (z : Zz) (f : Fm) (E : Ej) (R : Kr) : Prop := xcall 3 7 (Sp_X7_isIn V) 0 0 (q_X7_skip_6 V) ls st z f E R
def q_X7_skip_2 (V : Nat → Nat) (ls : Ls) (st : List Value) (z : Zz) (f : Fm) (E : Ej) (R : Kr) : Prop := xiload 1 (q_X7_skip_3 V) ls st z f E R
def q_X7_skip_1 (V : Nat → Nat) (ls : Ls) (st : List Value) (z : Zz) (f : Fm) (E : Ej) (R : Kr) : Prop := xiload 1 (q_X7_skip_2 V) ls st z f E R
def q_X7_skip_0 (V : Nat → Nat) (ls : Ls) (st : List Value) (z : Zz) (f : Fm) (E : Ej) (R : Kr) : Prop := xaload 0 (q_X7_skip_1 V) ls st z f E R
set_option maxRecDepth 100000 in
theorem t_X7_skip {s0 : State} {D : va_G} {ids : Nat → ClassId} {V : Nat → Nat} {l : Launch} {K : Kr} {E : Ej} (G : GG s0 D ids V) (X : EnX s0 D ids l RX7 cX7_skip 2 (some .boolean) "skip" rm_X7_skip K E) : Sd E K 0 (q_X7_skip_0 V) := by
  have h22 : Sd E K 22 (q_X7_skip_22 V) := sd_ret X (by decide +kernel : decode cX7_skip 22 = .ok (.ireturn, 1))
  have h21 : Sd E K 21 (q_X7_skip_21 V) := sd_iconst X (by decide +kernel : decode cX7_skip 21 = .ok (.iconst 1, 1)) (by decide +kernel) h22
  have h18 : Sd E K 18 (q_X7_skip_18 V) := sd_put X (by decide +kernel : decode cX7_skip 18 = .ok (.putfield 18, 3)) ok_X7 (Nat.le_of_ble_eq_true rfl) rfl rfl wd_346 h21
  have h17 : Sd E K 17 (q_X7_skip_17 V) := sd_iadd X (by decide +kernel : decode cX7_skip 17 = .ok (.iadd, 1)) h18
  have h16 : Sd E K 16 (q_X7_skip_16 V) := sd_iconst X (by decide +kernel : decode cX7_skip 16 = .ok (.iconst 1, 1)) (by decide +kernel) h17
  have h13 : Sd E K 13 (q_X7_skip_13 V) := sd_get X (by decide +kernel : decode cX7_skip 13 = .ok (.getfield 18, 3)) ok_X7 (Nat.le_of_ble_eq_true rfl) wd_346 h16
  have h12 : Sd E K 12 (q_X7_skip_12 V) := sd_dup X (by decide +kernel : decode cX7_skip 12 = .ok (.dup, 1)) h13
  have h11 : Sd E K 11 (q_X7_skip_11 V) := sd_aload_n X (by decide +kernel : decode cX7_skip 11 = .ok (.aload_n 0, 1)) rfl h12
  have h10 : Sd E K 10 (q_X7_skip_10 V) := sd_ret X (by decide +kernel : decode cX7_skip 10 = .ok (.ireturn, 1))
  have h9 : Sd E K 9 (q_X7_skip_9 V) := sd_iconst X (by decide +kernel : decode cX7_skip 9 = .ok (.iconst 0, 1)) (by decide +kernel) h10
  have h6 : Sd E K 6 (q_X7_skip_6 V) := sd_if_ne X (by decide +kernel : decode cX7_skip 6 = .ok (.ifCond .ne 5, 3)) (by decide) h11 h9
  have h3 : Sd E K 3 (q_X7_skip_3 V) := sd_callV (n := 2) (ci := 6) X (ct_X7_isIn G) (by decide +kernel : decode cX7_skip 3 = .ok (.invokevirtual 80, 3)) wd_651 wd_648 wd_650 wd_7 wd_34 (by decide +kernel) (Or.inl ⟨by decide, _, _, rfl⟩) ⟨Nat.le_of_ble_eq_true rfl, Nat.le_of_ble_eq_true rfl⟩ h6
  have h2 : Sd E K 2 (q_X7_skip_2 V) := sd_iload_n X (by decide +kernel : decode cX7_skip 2 = .ok (.iload_n 1, 1)) rfl h3
  have h1 : Sd E K 1 (q_X7_skip_1 V) := sd_iload_n X (by decide +kernel : decode cX7_skip 1 = .ok (.iload_n 1, 1)) rfl h2
  have h0 : Sd E K 0 (q_X7_skip_0 V) := sd_aload_n X (by decide +kernel : decode cX7_skip 0 = .ok (.aload_n 0, 1)) rfl h1
  exact h0
set_option maxHeartbeats 4000000 in
set_option maxRecDepth 100000 in
theorem ct_X7_skip {s0 : State} {D : va_G} {ids : Nat → ClassId} {V : Nat → Nat} {l : Launch} (G : GG s0 D ids V) : CT s0 D ids l yX7_skip cX7_skip 2 (some .boolean) rm_X7_skip (Sp_X7_skip V) := CT.of (by decide +kernel) G.k (by
  rintro as z f K E ⟨a, tb, v, w, z0, c, T, s, rfl, hc, hX, hK⟩ X
  refine ⟨Nat.le_of_ble_eq_true rfl, by simp [Value.category], t_X7_skip G X _ _ _ _ ?_⟩
  have hR := hX.1
  have hO := hX.2.1.1
  have hT := hX.2.2.1
  unfold isRr at hR
  simp (disch := omega) only [q_X7_skip_0, q_X7_skip_1, q_X7_skip_2, q_X7_skip_3, q_X7_skip_6, q_X7_skip_9, q_X7_skip_10, q_X7_skip_11, q_X7_skip_12, q_X7_skip_13, q_X7_skip_16, q_X7_skip_17, q_X7_skip_18, q_X7_skip_21, q_X7_skip_22, xpush, xiload, xaload, xlload, xfload, xdload, lkill, xistore, xastore, xfstore, xlstore, xdstore, xiinc, xbin, xdiv, xun, xlbin, xi2l, xi2f, xi2d, xlcmp, xfcmp, xdcmp, xfdiv, xddiv, c1, xdup, xpop, xdup_x1, xdup2, xif, xicmp, xtab, xtabL, xget, xput, xald, xast, xalen, xnew, xnewa, c1s, recvOk, xcall, kont, xret, xlret, xfret, xdret, xaret, xvret, xs, xnewq, xastq, xcopy, xcopyF, xobj, xmax, xmin, xdead, xpushq, xmna, ls0, List.map_cons, List.map_nil, List.length_cons, List.length_nil, List.replicate, List.append_nil, List.cons_append, List.nil_append, List.getElem?_cons_zero, List.getElem?_cons_succ, List.getElem?_nil, List.set_cons_zero, List.set_cons_succ, List.take_succ_cons, List.take_zero, List.drop_succ_cons, List.drop_zero, List.reverse_cons, List.reverse_nil, List.sum_cons, List.sum_nil, Value.category, Option.toList_some, Option.toList_none, Nat.reduceAdd, Nat.reduceSub, Nat.reduceLT, Nat.reduceLeDiff, Nat.zero_add, Nat.le_refl, true_and, and_true, Nat.sub_zero, Nat.zero_lt_succ, Nat.zero_le, Nat.not_lt_zero, Nat.reduceEqDiff, Nat.one_ne_zero, nI_toInt, Int.reduceEq, Int.reduceAdd, Int.reduceLT, Int.reduceLE, Int.cast_ofNat_Int, reduceIte, or_false, false_or, eq_self, or_true, true_or, or_self, nI_clamp, vp_in_nI, nI_ltI, nI_leI, nI_eq, nI_add, nI_zero9, nI_nlt0, nI_le0, nI_lt0, arG, va_rf, not_false_eq_true, not_true_eq_false, false_implies, true_implies, implies_true, ne_eq, okv_int, okv_z0, okv_z1, okv_zN, okv_ref, okv_arr, okv_null, vn_z0, vn_z1, vn_zN, nr_int, nr_z, va_up_self, up_fr, rw1_j, rw1_up, hR]
  refine ⟨a, tb, v, w, z0, c, c, T, s, rfl, hc, hc, hX, ?_⟩
  unfold rSk at hK
  by_cases q : inN T (s 0) c c
  · rw [if_pos q] at hK
    rw [if_pos q]
    simp (disch := omega) only [q_X7_skip_0, q_X7_skip_1, q_X7_skip_2, q_X7_skip_3, q_X7_skip_6, q_X7_skip_9, q_X7_skip_10, q_X7_skip_11, q_X7_skip_12, q_X7_skip_13, q_X7_skip_16, q_X7_skip_17, q_X7_skip_18, q_X7_skip_21, q_X7_skip_22, xpush, xiload, xaload, xlload, xfload, xdload, lkill, xistore, xastore, xfstore, xlstore, xdstore, xiinc, xbin, xdiv, xun, xlbin, xi2l, xi2f, xi2d, xlcmp, xfcmp, xdcmp, xfdiv, xddiv, c1, xdup, xpop, xdup_x1, xdup2, xif, xicmp, xtab, xtabL, xget, xput, xald, xast, xalen, xnew, xnewa, c1s, recvOk, xcall, kont, xret, xlret, xfret, xdret, xaret, xvret, xs, xnewq, xastq, xcopy, xcopyF, xobj, xmax, xmin, xdead, xpushq, xmna, ls0, List.map_cons, List.map_nil, List.length_cons, List.length_nil, List.replicate, List.append_nil, List.cons_append, List.nil_append, List.getElem?_cons_zero, List.getElem?_cons_succ, List.getElem?_nil, List.set_cons_zero, List.set_cons_succ, List.take_succ_cons, List.take_zero, List.drop_succ_cons, List.drop_zero, List.reverse_cons, List.reverse_nil, List.sum_cons, List.sum_nil, Value.category, Option.toList_some, Option.toList_none, Nat.reduceAdd, Nat.reduceSub, Nat.reduceLT, Nat.reduceLeDiff, Nat.zero_add, Nat.le_refl, true_and, and_true, Nat.sub_zero, Nat.zero_lt_succ, Nat.zero_le, Nat.not_lt_zero, Nat.reduceEqDiff, Nat.one_ne_zero, nI_toInt, Int.reduceEq, Int.reduceAdd, Int.reduceLT, Int.reduceLE, Int.cast_ofNat_Int, reduceIte, or_false, false_or, eq_self, or_true, true_or, or_self, nI_clamp, vp_in_nI, nI_ltI, nI_leI, nI_eq, nI_add, nI_zero9, nI_nlt0, nI_le0, nI_lt0, arG, va_rf, not_false_eq_true, not_true_eq_false, false_implies, true_implies, implies_true, ne_eq, okv_int, okv_z0, okv_z1, okv_zN, okv_ref, okv_arr, okv_null, vn_z0, vn_z1, vn_zN, nr_int, nr_z, va_up_self, up_fr, rw1_j, rw1_up, hR]
    exact hK _ (va_up_self _ _ _) (fun q hq => up_fr hq)
  · rw [if_neg q] at hK
    rw [if_neg q]
    simp (disch := omega) only [q_X7_skip_0, q_X7_skip_1, q_X7_skip_2, q_X7_skip_3, q_X7_skip_6, q_X7_skip_9, q_X7_skip_10, q_X7_skip_11, q_X7_skip_12, q_X7_skip_13, q_X7_skip_16, q_X7_skip_17, q_X7_skip_18, q_X7_skip_21, q_X7_skip_22, xpush, xiload, xaload, xlload, xfload, xdload, lkill, xistore, xastore, xfstore, xlstore, xdstore, xiinc, xbin, xdiv, xun, xlbin, xi2l, xi2f, xi2d, xlcmp, xfcmp, xdcmp, xfdiv, xddiv, c1, xdup, xpop, xdup_x1, xdup2, xif, xicmp, xtab, xtabL, xget, xput, xald, xast, xalen, xnew, xnewa, c1s, recvOk, xcall, kont, xret, xlret, xfret, xdret, xaret, xvret, xs, xnewq, xastq, xcopy, xcopyF, xobj, xmax, xmin, xdead, xpushq, xmna, ls0, List.map_cons, List.map_nil, List.length_cons, List.length_nil, List.replicate, List.append_nil, List.cons_append, List.nil_append, List.getElem?_cons_zero, List.getElem?_cons_succ, List.getElem?_nil, List.set_cons_zero, List.set_cons_succ, List.take_succ_cons, List.take_zero, List.drop_succ_cons, List.drop_zero, List.reverse_cons, List.reverse_nil, List.sum_cons, List.sum_nil, Value.category, Option.toList_some, Option.toList_none, Nat.reduceAdd, Nat.reduceSub, Nat.reduceLT, Nat.reduceLeDiff, Nat.zero_add, Nat.le_refl, true_and, and_true, Nat.sub_zero, Nat.zero_lt_succ, Nat.zero_le, Nat.not_lt_zero, Nat.reduceEqDiff, Nat.one_ne_zero, nI_toInt, Int.reduceEq, Int.reduceAdd, Int.reduceLT, Int.reduceLE, Int.cast_ofNat_Int, reduceIte, or_false, false_or, eq_self, or_true, true_or, or_self, nI_clamp, vp_in_nI, nI_ltI, nI_leI, nI_eq, nI_add, nI_zero9, nI_nlt0, nI_le0, nI_lt0, arG, va_rf, not_false_eq_true, not_true_eq_false, false_implies, true_implies, implies_true, ne_eq, okv_int, okv_z0, okv_z1, okv_zN, okv_ref, okv_arr, okv_null, vn_z0, vn_z1, vn_zN, nr_int, nr_z, va_up_self, up_fr, rw1_j, rw1_up, hR]
    exact hK _ hX.1 (fun q hq => rfl))
abbrev Sp_X7_skipSemicolon (V : Nat → Nat) : Spt := fun as z f K => ∃ (a tb v w z0 : Nat) (T : List Nat) (s : Rs), as = [.ref a] ∧ rX V f a tb v w z0 T s ∧ ∀ f', isRr V f' a tb (rSk T 59 s).2 → (∀ q, q ≠ a → f' q = f q) → K (some (.int (nI (rSk T 59 s).1))) z f'
def rm_X7_skipSemicolon : Room := { frames := 6, cells := 0, slots := 0, locals := 131 }
def q_X7_skipSemicolon_6 (V : Nat → Nat) (ls : Ls) (st : List Value) (z : Zz) (f : Fm) (E : Ej) (R : Kr) : Prop := xret .boolean ls st z f E R
def q_X7_skipSemicolon_3 (V : Nat → Nat) (ls : Ls) (st : List Value) (z : Zz) (f : Fm) (E : Ej) (R : Kr) : Prop := xcall 2 7 (Sp_X7_skip V) 0 0 (q_X7_skipSemicolon_6 V) ls st z f E R
def q_X7_skipSemicolon_1 (V : Nat → Nat) (ls : Ls) (st : List Value) (z : Zz) (f : Fm) (E : Ej) (R : Kr) : Prop := xpush (.int (nI 59)) (q_X7_skipSemicolon_3 V) ls st z f E R
def q_X7_skipSemicolon_0 (V : Nat → Nat) (ls : Ls) (st : List Value) (z : Zz) (f : Fm) (E : Ej) (R : Kr) : Prop := xaload 0 (q_X7_skipSemicolon_1 V) ls st z f E R
set_option maxRecDepth 100000 in
theorem t_X7_skipSemicolon {s0 : State} {D : va_G} {ids : Nat → ClassId} {V : Nat → Nat} {l : Launch} {K : Kr} {E : Ej} (G : GG s0 D ids V) (X : EnX s0 D ids l RX7 cX7_skipSemicolon 1 (some .boolean) "skipSemicolon" rm_X7_skipSemicolon K E) : Sd E K 0 (q_X7_skipSemicolon_0 V) := by
  have h6 : Sd E K 6 (q_X7_skipSemicolon_6 V) := sd_ret X (by decide +kernel : decode cX7_skipSemicolon 6 = .ok (.ireturn, 1))
  have h3 : Sd E K 3 (q_X7_skipSemicolon_3 V) := sd_callV (n := 1) (ci := 6) X (ct_X7_skip G) (by decide +kernel : decode cX7_skipSemicolon 3 = .ok (.invokevirtual 55, 3)) wd_692 wd_689 wd_691 wd_11 wd_34 (by decide +kernel) (Or.inl ⟨by decide, _, _, rfl⟩) ⟨Nat.le_of_ble_eq_true rfl, Nat.le_of_ble_eq_true rfl⟩ h6
  have h1 : Sd E K 1 (q_X7_skipSemicolon_1 V) := sd_bipush X (by decide +kernel : decode cX7_skipSemicolon 1 = .ok (.bipush 59, 2)) (by decide +kernel) h3
  have h0 : Sd E K 0 (q_X7_skipSemicolon_0 V) := sd_aload_n X (by decide +kernel : decode cX7_skipSemicolon 0 = .ok (.aload_n 0, 1)) rfl h1
  exact h0
set_option maxHeartbeats 4000000 in
set_option maxRecDepth 100000 in
theorem ct_X7_skipSemicolon {s0 : State} {D : va_G} {ids : Nat → ClassId} {V : Nat → Nat} {l : Launch} (G : GG s0 D ids V) : CT s0 D ids l yX7_skipSemicolon cX7_skipSemicolon 1 (some .boolean) rm_X7_skipSemicolon (Sp_X7_skipSemicolon V) := CT.of (by decide +kernel) G.k (by
  rintro as z f K E ⟨a, tb, v, w, z0, T, s, rfl, hX, hK⟩ X
  refine ⟨Nat.le_of_ble_eq_true rfl, by simp [Value.category], t_X7_skipSemicolon G X _ _ _ _ ?_⟩
  have hR := hX.1
  have hk := (rSk_ok (c := 59) hX.2.1).2
  unfold isRr at hR
  simp (disch := omega) only [q_X7_skipSemicolon_0, q_X7_skipSemicolon_1, q_X7_skipSemicolon_3, q_X7_skipSemicolon_6, xpush, xiload, xaload, xlload, xfload, xdload, lkill, xistore, xastore, xfstore, xlstore, xdstore, xiinc, xbin, xdiv, xun, xlbin, xi2l, xi2f, xi2d, xlcmp, xfcmp, xdcmp, xfdiv, xddiv, c1, xdup, xpop, xdup_x1, xdup2, xif, xicmp, xtab, xtabL, xget, xput, xald, xast, xalen, xnew, xnewa, c1s, recvOk, xcall, kont, xret, xlret, xfret, xdret, xaret, xvret, xs, xnewq, xastq, xcopy, xcopyF, xobj, xmax, xmin, xdead, xpushq, xmna, ls0, List.map_cons, List.map_nil, List.length_cons, List.length_nil, List.replicate, List.append_nil, List.cons_append, List.nil_append, List.getElem?_cons_zero, List.getElem?_cons_succ, List.getElem?_nil, List.set_cons_zero, List.set_cons_succ, List.take_succ_cons, List.take_zero, List.drop_succ_cons, List.drop_zero, List.reverse_cons, List.reverse_nil, List.sum_cons, List.sum_nil, Value.category, Option.toList_some, Option.toList_none, Nat.reduceAdd, Nat.reduceSub, Nat.reduceLT, Nat.reduceLeDiff, Nat.zero_add, Nat.le_refl, true_and, and_true, Nat.sub_zero, Nat.zero_lt_succ, Nat.zero_le, Nat.not_lt_zero, Nat.reduceEqDiff, Nat.one_ne_zero, nI_toInt, Int.reduceEq, Int.reduceAdd, Int.reduceLT, Int.reduceLE, Int.cast_ofNat_Int, reduceIte, or_false, false_or, eq_self, or_true, true_or, or_self, nI_clamp, vp_in_nI, nI_ltI, nI_leI, nI_eq, nI_add, nI_zero9, nI_nlt0, nI_le0, nI_lt0, arG, va_rf, not_false_eq_true, not_true_eq_false, false_implies, true_implies, implies_true, ne_eq, okv_int, okv_z0, okv_z1, okv_zN, okv_ref, okv_arr, okv_null, vn_z0, vn_z1, vn_zN, nr_int, nr_z, va_up_self, up_fr, rw1_j, rw1_up, hR]
  refine ⟨a, tb, v, w, z0, 59, T, s, rfl, by omega, hX, fun f1 g1 fr1 => ?_⟩
  simp (disch := omega) only [q_X7_skipSemicolon_0, q_X7_skipSemicolon_1, q_X7_skipSemicolon_3, q_X7_skipSemicolon_6, xpush, xiload, xaload, xlload, xfload, xdload, lkill, xistore, xastore, xfstore, xlstore, xdstore, xiinc, xbin, xdiv, xun, xlbin, xi2l, xi2f, xi2d, xlcmp, xfcmp, xdcmp, xfdiv, xddiv, c1, xdup, xpop, xdup_x1, xdup2, xif, xicmp, xtab, xtabL, xget, xput, xald, xast, xalen, xnew, xnewa, c1s, recvOk, xcall, kont, xret, xlret, xfret, xdret, xaret, xvret, xs, xnewq, xastq, xcopy, xcopyF, xobj, xmax, xmin, xdead, xpushq, xmna, ls0, List.map_cons, List.map_nil, List.length_cons, List.length_nil, List.replicate, List.append_nil, List.cons_append, List.nil_append, List.getElem?_cons_zero, List.getElem?_cons_succ, List.getElem?_nil, List.set_cons_zero, List.set_cons_succ, List.take_succ_cons, List.take_zero, List.drop_succ_cons, List.drop_zero, List.reverse_cons, List.reverse_nil, List.sum_cons, List.sum_nil, Value.category, Option.toList_some, Option.toList_none, Nat.reduceAdd, Nat.reduceSub, Nat.reduceLT, Nat.reduceLeDiff, Nat.zero_add, Nat.le_refl, true_and, and_true, Nat.sub_zero, Nat.zero_lt_succ, Nat.zero_le, Nat.not_lt_zero, Nat.reduceEqDiff, Nat.one_ne_zero, nI_toInt, Int.reduceEq, Int.reduceAdd, Int.reduceLT, Int.reduceLE, Int.cast_ofNat_Int, reduceIte, or_false, false_or, eq_self, or_true, true_or, or_self, nI_clamp, vp_in_nI, nI_ltI, nI_leI, nI_eq, nI_add, nI_zero9, nI_nlt0, nI_le0, nI_lt0, arG, va_rf, not_false_eq_true, not_true_eq_false, false_implies, true_implies, implies_true, ne_eq, okv_int, okv_z0, okv_z1, okv_zN, okv_ref, okv_arr, okv_null, vn_z0, vn_z1, vn_zN, nr_int, nr_z, va_up_self, up_fr, rw1_j, rw1_up]
  exact hK f1 g1 fr1)
abbrev Sp_X7_readFort (V : Nat → Nat) : Spt := fun as z f K => ∃ (a tb v w z0 : Nat) (T : List Nat) (s : Rs), as = [.ref a] ∧ rX V f a tb v w z0 T s ∧ ∀ f', isRr V f' a tb (rFt T s).2 → (∀ q, q ≠ a → f' q = f q) → K (some (.int (nI (rFt T s).1))) z f'
def rm_X7_readFort : Room := { frames := 5, cells := 0, slots := 0, locals := 110 }
def q_X7_readFort_64 (V : Nat → Nat) (ls : Ls) (st : List Value) (z : Zz) (f : Fm) (E : Ej) (R : Kr) : Prop := xret .boolean ls st z f E R
def q_X7_readFort_63 (V : Nat → Nat) (ls : Ls) (st : List Value) (z : Zz) (f : Fm) (E : Ej) (R : Kr) : Prop := xpush (.int (nI 1)) (q_X7_readFort_64 V) ls st z f E R
def q_X7_readFort_60 (V : Nat → Nat) (ls : Ls) (st : List Value) (z : Zz) (f : Fm) (E : Ej) (R : Kr) : Prop := xput 6 1 .int (q_X7_readFort_63 V) ls st z f E R
def q_X7_readFort_59 (V : Nat → Nat) (ls : Ls) (st : List Value) (z : Zz) (f : Fm) (E : Ej) (R : Kr) : Prop := xbin (fun x y => x + y) (q_X7_readFort_60 V) ls st z f E R
def q_X7_readFort_58 (V : Nat → Nat) (ls : Ls) (st : List Value) (z : Zz) (f : Fm) (E : Ej) (R : Kr) : Prop := xpush (.int (nI 1)) (q_X7_readFort_59 V) ls st z f E R
def q_X7_readFort_55 (V : Nat → Nat) (ls : Ls) (st : List Value) (z : Zz) (f : Fm) (E : Ej) (R : Kr) : Prop := xget 6 1 (q_X7_readFort_58 V) ls st z f E R
def q_X7_readFort_54 (V : Nat → Nat) (ls : Ls) (st : List Value) (z : Zz) (f : Fm) (E : Ej) (R : Kr) : Prop := xdup (q_X7_readFort_55 V) ls st z f E R
def q_X7_readFort_53 (V : Nat → Nat) (ls : Ls) (st : List Value) (z : Zz) (f : Fm) (E : Ej) (R : Kr) : Prop := xaload 0 (q_X7_readFort_54 V) ls st z f E R
def q_X7_readFort_50 (V : Nat → Nat) (ls : Ls) (st : List Value) (z : Zz) (f : Fm) (E : Ej) (R : Kr) : Prop := xput 6 6 .boolean (q_X7_readFort_53 V) ls st z f E R
def q_X7_readFort_49 (V : Nat → Nat) (ls : Ls) (st : List Value) (z : Zz) (f : Fm) (E : Ej) (R : Kr) : Prop := xpush (.int (nI 1)) (q_X7_readFort_50 V) ls st z f E R
def q_X7_readFort_48 (V : Nat → Nat) (ls : Ls) (st : List Value) (z : Zz) (f : Fm) (E : Ej) (R : Kr) : Prop := xaload 0 (q_X7_readFort_49 V) ls st z f E R
def q_X7_readFort_45 (V : Nat → Nat) (ls : Ls) (st : List Value) (z : Zz) (f : Fm) (E : Ej) (R : Kr) : Prop := xput 6 3 .int (q_X7_readFort_48 V) ls st z f E R
def q_X7_readFort_44 (V : Nat → Nat) (ls : Ls) (st : List Value) (z : Zz) (f : Fm) (E : Ej) (R : Kr) : Prop := xiload 1 (q_X7_readFort_45 V) ls st z f E R
def q_X7_readFort_43 (V : Nat → Nat) (ls : Ls) (st : List Value) (z : Zz) (f : Fm) (E : Ej) (R : Kr) : Prop := xaload 0 (q_X7_readFort_44 V) ls st z f E R
def q_X7_readFort_37 (V : Nat → Nat) (ls : Ls) (st : List Value) (z : Zz) (f : Fm) (E : Ej) (R : Kr) : Prop := xput 6 4 .int (q_X7_readFort_48 V) ls st z f E R
def q_X7_readFort_36 (V : Nat → Nat) (ls : Ls) (st : List Value) (z : Zz) (f : Fm) (E : Ej) (R : Kr) : Prop := xiload 1 (q_X7_readFort_37 V) ls st z f E R
def q_X7_readFort_35 (V : Nat → Nat) (ls : Ls) (st : List Value) (z : Zz) (f : Fm) (E : Ej) (R : Kr) : Prop := xaload 0 (q_X7_readFort_36 V) ls st z f E R
def q_X7_readFort_32 (V : Nat → Nat) (ls : Ls) (st : List Value) (z : Zz) (f : Fm) (E : Ej) (R : Kr) : Prop := xif (fun x => x = 0) (q_X7_readFort_43 V) (q_X7_readFort_35 V) ls st z f E R
def q_X7_readFort_29 (V : Nat → Nat) (ls : Ls) (st : List Value) (z : Zz) (f : Fm) (E : Ej) (R : Kr) : Prop := xget 6 6 (q_X7_readFort_32 V) ls st z f E R
def q_X7_readFort_28 (V : Nat → Nat) (ls : Ls) (st : List Value) (z : Zz) (f : Fm) (E : Ej) (R : Kr) : Prop := xaload 0 (q_X7_readFort_29 V) ls st z f E R
def q_X7_readFort_27 (V : Nat → Nat) (ls : Ls) (st : List Value) (z : Zz) (f : Fm) (E : Ej) (R : Kr) : Prop := xistore 1 (q_X7_readFort_28 V) ls st z f E R
def q_X7_readFort_26 (V : Nat → Nat) (ls : Ls) (st : List Value) (z : Zz) (f : Fm) (E : Ej) (R : Kr) : Prop := xbin (fun x y => x - y) (q_X7_readFort_27 V) ls st z f E R
def q_X7_readFort_24 (V : Nat → Nat) (ls : Ls) (st : List Value) (z : Zz) (f : Fm) (E : Ej) (R : Kr) : Prop := xpush (.int (nI 97)) (q_X7_readFort_26 V) ls st z f E R
def q_X7_readFort_21 (V : Nat → Nat) (ls : Ls) (st : List Value) (z : Zz) (f : Fm) (E : Ej) (R : Kr) : Prop := xcall 2 1 Sp_J4_charAt_5068e 0 0 (q_X7_readFort_24 V) ls st z f E R
def q_X7_readFort_18 (V : Nat → Nat) (ls : Ls) (st : List Value) (z : Zz) (f : Fm) (E : Ej) (R : Kr) : Prop := xget 6 1 (q_X7_readFort_21 V) ls st z f E R
def q_X7_readFort_17 (V : Nat → Nat) (ls : Ls) (st : List Value) (z : Zz) (f : Fm) (E : Ej) (R : Kr) : Prop := xaload 0 (q_X7_readFort_18 V) ls st z f E R
def q_X7_readFort_14 (V : Nat → Nat) (ls : Ls) (st : List Value) (z : Zz) (f : Fm) (E : Ej) (R : Kr) : Prop := xget 6 0 (q_X7_readFort_17 V) ls st z f E R
def q_X7_readFort_13 (V : Nat → Nat) (ls : Ls) (st : List Value) (z : Zz) (f : Fm) (E : Ej) (R : Kr) : Prop := xaload 0 (q_X7_readFort_14 V) ls st z f E R
def q_X7_readFort_12 (V : Nat → Nat) (ls : Ls) (st : List Value) (z : Zz) (f : Fm) (E : Ej) (R : Kr) : Prop := xret .boolean ls st z f E R
def q_X7_readFort_11 (V : Nat → Nat) (ls : Ls) (st : List Value) (z : Zz) (f : Fm) (E : Ej) (R : Kr) : Prop := xpush (.int (nI 0)) (q_X7_readFort_12 V) ls st z f E R
def q_X7_readFort_8 (V : Nat → Nat) (ls : Ls) (st : List Value) (z : Zz) (f : Fm) (E : Ej) (R : Kr) : Prop := xif (fun x => ¬ x = 0) (q_X7_readFort_13 V) (q_X7_readFort_11 V) ls st z f E R
def q_X7_readFort_5 (V : Nat → Nat) (ls : Ls) (st : List Value) (z : Zz) (f : Fm) (E : Ej) (R : Kr) : Prop := xcall 3 7 (Sp_X7_isIn V) 0 0 (q_X7_readFort_8 V) ls st z f E R
def q_X7_readFort_3 (V : Nat → Nat) (ls : Ls) (st : List Value) (z : Zz) (f : Fm) (E : Ej) (R : Kr) : Prop := xpush (.int (nI 104)) (q_X7_readFort_5 V) ls st z f E R
def q_X7_readFort_1 (V : Nat → Nat) (ls : Ls) (st : List Value) (z : Zz) (f : Fm) (E : Ej) (R : Kr) : Prop := xpush (.int (nI 97)) (q_X7_readFort_3 V) ls st z f E R
def q_X7_readFort_0 (V : Nat → Nat) (ls : Ls) (st : List Value) (z : Zz) (f : Fm) (E : Ej) (R : Kr) : Prop := xaload 0 (q_X7_readFort_1 V) ls st z f E R
set_option maxRecDepth 100000 in
theorem t_X7_readFort {s0 : State} {D : va_G} {ids : Nat → ClassId} {V : Nat → Nat} {l : Launch} {K : Kr} {E : Ej} (G : GG s0 D ids V) (X : EnX s0 D ids l RX7 cX7_readFort 2 (some .boolean) "readFort" rm_X7_readFort K E) : Sd E K 0 (q_X7_readFort_0 V) := by
  have h64 : Sd E K 64 (q_X7_readFort_64 V) := sd_ret X (by decide +kernel : decode cX7_readFort 64 = .ok (.ireturn, 1))
  have h63 : Sd E K 63 (q_X7_readFort_63 V) := sd_iconst X (by decide +kernel : decode cX7_readFort 63 = .ok (.iconst 1, 1)) (by decide +kernel) h64
  have h60 : Sd E K 60 (q_X7_readFort_60 V) := sd_put X (by decide +kernel : decode cX7_readFort 60 = .ok (.putfield 18, 3)) ok_X7 (Nat.le_of_ble_eq_true rfl) rfl rfl wd_346 h63
  have h59 : Sd E K 59 (q_X7_readFort_59 V) := sd_iadd X (by decide +kernel : decode cX7_readFort 59 = .ok (.iadd, 1)) h60
  have h58 : Sd E K 58 (q_X7_readFort_58 V) := sd_iconst X (by decide +kernel : decode cX7_readFort 58 = .ok (.iconst 1, 1)) (by decide +kernel) h59
  have h55 : Sd E K 55 (q_X7_readFort_55 V) := sd_get X (by decide +kernel : decode cX7_readFort 55 = .ok (.getfield 18, 3)) ok_X7 (Nat.le_of_ble_eq_true rfl) wd_346 h58
  have h54 : Sd E K 54 (q_X7_readFort_54 V) := sd_dup X (by decide +kernel : decode cX7_readFort 54 = .ok (.dup, 1)) h55
  have h53 : Sd E K 53 (q_X7_readFort_53 V) := sd_aload_n X (by decide +kernel : decode cX7_readFort 53 = .ok (.aload_n 0, 1)) rfl h54
  have h50 : Sd E K 50 (q_X7_readFort_50 V) := sd_put X (by decide +kernel : decode cX7_readFort 50 = .ok (.putfield 40, 3)) ok_X7 (Nat.le_of_ble_eq_true rfl) rfl rfl wd_356 h53
  have h49 : Sd E K 49 (q_X7_readFort_49 V) := sd_iconst X (by decide +kernel : decode cX7_readFort 49 = .ok (.iconst 1, 1)) (by decide +kernel) h50
  have h48 : Sd E K 48 (q_X7_readFort_48 V) := sd_aload_n X (by decide +kernel : decode cX7_readFort 48 = .ok (.aload_n 0, 1)) rfl h49
  have h45 : Sd E K 45 (q_X7_readFort_45 V) := sd_put X (by decide +kernel : decode cX7_readFort 45 = .ok (.putfield 31, 3)) ok_X7 (Nat.le_of_ble_eq_true rfl) rfl rfl wd_350 h48
  have h44 : Sd E K 44 (q_X7_readFort_44 V) := sd_iload_n X (by decide +kernel : decode cX7_readFort 44 = .ok (.iload_n 1, 1)) rfl h45
  have h43 : Sd E K 43 (q_X7_readFort_43 V) := sd_aload_n X (by decide +kernel : decode cX7_readFort 43 = .ok (.aload_n 0, 1)) rfl h44
  have h40 : Sd E K 40 (q_X7_readFort_48 V) := sd_goto X (by decide +kernel : decode cX7_readFort 40 = .ok (.goto 8, 3)) (by decide) h48
  have h37 : Sd E K 37 (q_X7_readFort_37 V) := sd_put X (by decide +kernel : decode cX7_readFort 37 = .ok (.putfield 34, 3)) ok_X7 (Nat.le_of_ble_eq_true rfl) rfl rfl wd_352 h40
  have h36 : Sd E K 36 (q_X7_readFort_36 V) := sd_iload_n X (by decide +kernel : decode cX7_readFort 36 = .ok (.iload_n 1, 1)) rfl h37
  have h35 : Sd E K 35 (q_X7_readFort_35 V) := sd_aload_n X (by decide +kernel : decode cX7_readFort 35 = .ok (.aload_n 0, 1)) rfl h36
  have h32 : Sd E K 32 (q_X7_readFort_32 V) := sd_if_eq X (by decide +kernel : decode cX7_readFort 32 = .ok (.ifCond .eq 11, 3)) (by decide) h43 h35
  have h29 : Sd E K 29 (q_X7_readFort_29 V) := sd_get X (by decide +kernel : decode cX7_readFort 29 = .ok (.getfield 40, 3)) ok_X7 (Nat.le_of_ble_eq_true rfl) wd_356 h32
  have h28 : Sd E K 28 (q_X7_readFort_28 V) := sd_aload_n X (by decide +kernel : decode cX7_readFort 28 = .ok (.aload_n 0, 1)) rfl h29
  have h27 : Sd E K 27 (q_X7_readFort_27 V) := sd_istore_n X (by decide +kernel : decode cX7_readFort 27 = .ok (.istore_n 1, 1)) rfl h28
  have h26 : Sd E K 26 (q_X7_readFort_26 V) := sd_isub X (by decide +kernel : decode cX7_readFort 26 = .ok (.isub, 1)) h27
  have h24 : Sd E K 24 (q_X7_readFort_24 V) := sd_bipush X (by decide +kernel : decode cX7_readFort 24 = .ok (.bipush 97, 2)) (by decide +kernel) h26
  have h21 : Sd E K 21 (q_X7_readFort_21 V) := sd_callV (n := 1) (ci := 0) X (ct_J4_charAt_5068e G) (by decide +kernel : decode cX7_readFort 21 = .ok (.invokevirtual 90, 3)) wd_662 wd_659 wd_660 wd_661 wd_36 (by decide +kernel) (Or.inl ⟨by decide, _, _, rfl⟩) ⟨Nat.le_of_ble_eq_true rfl, Nat.le_of_ble_eq_true rfl⟩ h24
  have h18 : Sd E K 18 (q_X7_readFort_18 V) := sd_get X (by decide +kernel : decode cX7_readFort 18 = .ok (.getfield 18, 3)) ok_X7 (Nat.le_of_ble_eq_true rfl) wd_346 h21
  have h17 : Sd E K 17 (q_X7_readFort_17 V) := sd_aload_n X (by decide +kernel : decode cX7_readFort 17 = .ok (.aload_n 0, 1)) rfl h18
  have h14 : Sd E K 14 (q_X7_readFort_14 V) := sd_get X (by decide +kernel : decode cX7_readFort 14 = .ok (.getfield 12, 3)) ok_X7 (Nat.le_of_ble_eq_true rfl) wd_344 h17
  have h13 : Sd E K 13 (q_X7_readFort_13 V) := sd_aload_n X (by decide +kernel : decode cX7_readFort 13 = .ok (.aload_n 0, 1)) rfl h14
  have h12 : Sd E K 12 (q_X7_readFort_12 V) := sd_ret X (by decide +kernel : decode cX7_readFort 12 = .ok (.ireturn, 1))
  have h11 : Sd E K 11 (q_X7_readFort_11 V) := sd_iconst X (by decide +kernel : decode cX7_readFort 11 = .ok (.iconst 0, 1)) (by decide +kernel) h12
  have h8 : Sd E K 8 (q_X7_readFort_8 V) := sd_if_ne X (by decide +kernel : decode cX7_readFort 8 = .ok (.ifCond .ne 5, 3)) (by decide) h13 h11
  have h5 : Sd E K 5 (q_X7_readFort_5 V) := sd_callV (n := 2) (ci := 6) X (ct_X7_isIn G) (by decide +kernel : decode cX7_readFort 5 = .ok (.invokevirtual 80, 3)) wd_651 wd_648 wd_650 wd_7 wd_34 (by decide +kernel) (Or.inl ⟨by decide, _, _, rfl⟩) ⟨Nat.le_of_ble_eq_true rfl, Nat.le_of_ble_eq_true rfl⟩ h8
  have h3 : Sd E K 3 (q_X7_readFort_3 V) := sd_bipush X (by decide +kernel : decode cX7_readFort 3 = .ok (.bipush 104, 2)) (by decide +kernel) h5
  have h1 : Sd E K 1 (q_X7_readFort_1 V) := sd_bipush X (by decide +kernel : decode cX7_readFort 1 = .ok (.bipush 97, 2)) (by decide +kernel) h3
  have h0 : Sd E K 0 (q_X7_readFort_0 V) := sd_aload_n X (by decide +kernel : decode cX7_readFort 0 = .ok (.aload_n 0, 1)) rfl h1
  exact h0
set_option maxHeartbeats 4000000 in
set_option maxRecDepth 100000 in
theorem ct_X7_readFort {s0 : State} {D : va_G} {ids : Nat → ClassId} {V : Nat → Nat} {l : Launch} (G : GG s0 D ids V) : CT s0 D ids l yX7_readFort cX7_readFort 2 (some .boolean) rm_X7_readFort (Sp_X7_readFort V) := CT.of (by decide +kernel) G.k (by
  rintro as z f K E ⟨a, tb, v, w, z0, T, s, rfl, hX, hK⟩ X
  refine ⟨Nat.le_of_ble_eq_true rfl, by simp [Value.category], t_X7_readFort G X _ _ _ _ ?_⟩
  have hR := hX.1
  have hO := hX.2.1.1
  have hO5 := hX.2.1.2.2.2.2
  have hT := hX.2.2.1
  unfold isRr at hR
  simp (disch := omega) only [q_X7_readFort_0, q_X7_readFort_1, q_X7_readFort_3, q_X7_readFort_5, q_X7_readFort_8, q_X7_readFort_11, q_X7_readFort_12, q_X7_readFort_13, q_X7_readFort_14, q_X7_readFort_17, q_X7_readFort_18, q_X7_readFort_21, q_X7_readFort_24, q_X7_readFort_26, q_X7_readFort_27, q_X7_readFort_28, q_X7_readFort_29, q_X7_readFort_32, q_X7_readFort_35, q_X7_readFort_36, q_X7_readFort_37, q_X7_readFort_43, q_X7_readFort_44, q_X7_readFort_45, q_X7_readFort_48, q_X7_readFort_49, q_X7_readFort_50, q_X7_readFort_53, q_X7_readFort_54, q_X7_readFort_55, q_X7_readFort_58, q_X7_readFort_59, q_X7_readFort_60, q_X7_readFort_63, q_X7_readFort_64, xpush, xiload, xaload, xlload, xfload, xdload, lkill, xistore, xastore, xfstore, xlstore, xdstore, xiinc, xbin, xdiv, xun, xlbin, xi2l, xi2f, xi2d, xlcmp, xfcmp, xdcmp, xfdiv, xddiv, c1, xdup, xpop, xdup_x1, xdup2, xif, xicmp, xtab, xtabL, xget, xput, xald, xast, xalen, xnew, xnewa, c1s, recvOk, xcall, kont, xret, xlret, xfret, xdret, xaret, xvret, xs, xnewq, xastq, xcopy, xcopyF, xobj, xmax, xmin, xdead, xpushq, xmna, ls0, List.map_cons, List.map_nil, List.length_cons, List.length_nil, List.replicate, List.append_nil, List.cons_append, List.nil_append, List.getElem?_cons_zero, List.getElem?_cons_succ, List.getElem?_nil, List.set_cons_zero, List.set_cons_succ, List.take_succ_cons, List.take_zero, List.drop_succ_cons, List.drop_zero, List.reverse_cons, List.reverse_nil, List.sum_cons, List.sum_nil, Value.category, Option.toList_some, Option.toList_none, Nat.reduceAdd, Nat.reduceSub, Nat.reduceLT, Nat.reduceLeDiff, Nat.zero_add, Nat.le_refl, true_and, and_true, Nat.sub_zero, Nat.zero_lt_succ, Nat.zero_le, Nat.not_lt_zero, Nat.reduceEqDiff, Nat.one_ne_zero, nI_toInt, Int.reduceEq, Int.reduceAdd, Int.reduceLT, Int.reduceLE, Int.cast_ofNat_Int, reduceIte, or_false, false_or, eq_self, or_true, true_or, or_self, nI_clamp, vp_in_nI, nI_ltI, nI_leI, nI_eq, nI_add, nI_zero9, nI_nlt0, nI_le0, nI_lt0, arG, va_rf, not_false_eq_true, not_true_eq_false, false_implies, true_implies, implies_true, ne_eq, okv_int, okv_z0, okv_z1, okv_zN, okv_ref, okv_arr, okv_null, vn_z0, vn_z1, vn_zN, nr_int, nr_z, va_up_self, up_fr, rw1_j, rw1_up, hR]
  refine ⟨a, tb, v, w, z0, 97, 104, T, s, rfl, by omega, by omega, hX, ?_⟩
  unfold rFt at hK
  by_cases q : inN T (s 0) 97 104
  · rw [if_pos q] at hK
    rw [if_pos q]
    obtain ⟨cap, lt, b, i1, -⟩ := id hX.2.2.2.2.1
    simp (disch := omega) only [q_X7_readFort_0, q_X7_readFort_1, q_X7_readFort_3, q_X7_readFort_5, q_X7_readFort_8, q_X7_readFort_11, q_X7_readFort_12, q_X7_readFort_13, q_X7_readFort_14, q_X7_readFort_17, q_X7_readFort_18, q_X7_readFort_21, q_X7_readFort_24, q_X7_readFort_26, q_X7_readFort_27, q_X7_readFort_28, q_X7_readFort_29, q_X7_readFort_32, q_X7_readFort_35, q_X7_readFort_36, q_X7_readFort_37, q_X7_readFort_43, q_X7_readFort_44, q_X7_readFort_45, q_X7_readFort_48, q_X7_readFort_49, q_X7_readFort_50, q_X7_readFort_53, q_X7_readFort_54, q_X7_readFort_55, q_X7_readFort_58, q_X7_readFort_59, q_X7_readFort_60, q_X7_readFort_63, q_X7_readFort_64, xpush, xiload, xaload, xlload, xfload, xdload, lkill, xistore, xastore, xfstore, xlstore, xdstore, xiinc, xbin, xdiv, xun, xlbin, xi2l, xi2f, xi2d, xlcmp, xfcmp, xdcmp, xfdiv, xddiv, c1, xdup, xpop, xdup_x1, xdup2, xif, xicmp, xtab, xtabL, xget, xput, xald, xast, xalen, xnew, xnewa, c1s, recvOk, xcall, kont, xret, xlret, xfret, xdret, xaret, xvret, xs, xnewq, xastq, xcopy, xcopyF, xobj, xmax, xmin, xdead, xpushq, xmna, ls0, List.map_cons, List.map_nil, List.length_cons, List.length_nil, List.replicate, List.append_nil, List.cons_append, List.nil_append, List.getElem?_cons_zero, List.getElem?_cons_succ, List.getElem?_nil, List.set_cons_zero, List.set_cons_succ, List.take_succ_cons, List.take_zero, List.drop_succ_cons, List.drop_zero, List.reverse_cons, List.reverse_nil, List.sum_cons, List.sum_nil, Value.category, Option.toList_some, Option.toList_none, Nat.reduceAdd, Nat.reduceSub, Nat.reduceLT, Nat.reduceLeDiff, Nat.zero_add, Nat.le_refl, true_and, and_true, Nat.sub_zero, Nat.zero_lt_succ, Nat.zero_le, Nat.not_lt_zero, Nat.reduceEqDiff, Nat.one_ne_zero, nI_toInt, Int.reduceEq, Int.reduceAdd, Int.reduceLT, Int.reduceLE, Int.cast_ofNat_Int, reduceIte, or_false, false_or, eq_self, or_true, true_or, or_self, nI_clamp, vp_in_nI, nI_ltI, nI_leI, nI_eq, nI_add, nI_zero9, nI_nlt0, nI_le0, nI_lt0, arG, va_rf, not_false_eq_true, not_true_eq_false, false_implies, true_implies, implies_true, ne_eq, okv_int, okv_z0, okv_z1, okv_zN, okv_ref, okv_arr, okv_null, vn_z0, vn_z1, vn_zN, nr_int, nr_z, va_up_self, up_fr, rw1_j, rw1_up, hR, i1]
    refine ⟨tb, v, w, z0, s 0, T, rfl, q.1, hX.2.2.2.2.1, ?_⟩
    simp (disch := omega) only [q_X7_readFort_0, q_X7_readFort_1, q_X7_readFort_3, q_X7_readFort_5, q_X7_readFort_8, q_X7_readFort_11, q_X7_readFort_12, q_X7_readFort_13, q_X7_readFort_14, q_X7_readFort_17, q_X7_readFort_18, q_X7_readFort_21, q_X7_readFort_24, q_X7_readFort_26, q_X7_readFort_27, q_X7_readFort_28, q_X7_readFort_29, q_X7_readFort_32, q_X7_readFort_35, q_X7_readFort_36, q_X7_readFort_37, q_X7_readFort_43, q_X7_readFort_44, q_X7_readFort_45, q_X7_readFort_48, q_X7_readFort_49, q_X7_readFort_50, q_X7_readFort_53, q_X7_readFort_54, q_X7_readFort_55, q_X7_readFort_58, q_X7_readFort_59, q_X7_readFort_60, q_X7_readFort_63, q_X7_readFort_64, xpush, xiload, xaload, xlload, xfload, xdload, lkill, xistore, xastore, xfstore, xlstore, xdstore, xiinc, xbin, xdiv, xun, xlbin, xi2l, xi2f, xi2d, xlcmp, xfcmp, xdcmp, xfdiv, xddiv, c1, xdup, xpop, xdup_x1, xdup2, xif, xicmp, xtab, xtabL, xget, xput, xald, xast, xalen, xnew, xnewa, c1s, recvOk, xcall, kont, xret, xlret, xfret, xdret, xaret, xvret, xs, xnewq, xastq, xcopy, xcopyF, xobj, xmax, xmin, xdead, xpushq, xmna, ls0, List.map_cons, List.map_nil, List.length_cons, List.length_nil, List.replicate, List.append_nil, List.cons_append, List.nil_append, List.getElem?_cons_zero, List.getElem?_cons_succ, List.getElem?_nil, List.set_cons_zero, List.set_cons_succ, List.take_succ_cons, List.take_zero, List.drop_succ_cons, List.drop_zero, List.reverse_cons, List.reverse_nil, List.sum_cons, List.sum_nil, Value.category, Option.toList_some, Option.toList_none, Nat.reduceAdd, Nat.reduceSub, Nat.reduceLT, Nat.reduceLeDiff, Nat.zero_add, Nat.le_refl, true_and, and_true, Nat.sub_zero, Nat.zero_lt_succ, Nat.zero_le, Nat.not_lt_zero, Nat.reduceEqDiff, Nat.one_ne_zero, nI_toInt, Int.reduceEq, Int.reduceAdd, Int.reduceLT, Int.reduceLE, Int.cast_ofNat_Int, reduceIte, or_false, false_or, eq_self, or_true, true_or, or_self, nI_clamp, vp_in_nI, nI_ltI, nI_leI, nI_eq, nI_add, nI_zero9, nI_nlt0, nI_le0, nI_lt0, arG, va_rf, not_false_eq_true, not_true_eq_false, false_implies, true_implies, implies_true, ne_eq, okv_int, okv_z0, okv_z1, okv_zN, okv_ref, okv_arr, okv_null, vn_z0, vn_z1, vn_zN, nr_int, nr_z, va_up_self, up_fr, rw1_j, rw1_up, hR, nI_sub]
    by_cases q5 : s 5 = 0
    · rw [q5]
      rw [if_pos q5] at hK
      simp (disch := omega) only [q_X7_readFort_0, q_X7_readFort_1, q_X7_readFort_3, q_X7_readFort_5, q_X7_readFort_8, q_X7_readFort_11, q_X7_readFort_12, q_X7_readFort_13, q_X7_readFort_14, q_X7_readFort_17, q_X7_readFort_18, q_X7_readFort_21, q_X7_readFort_24, q_X7_readFort_26, q_X7_readFort_27, q_X7_readFort_28, q_X7_readFort_29, q_X7_readFort_32, q_X7_readFort_35, q_X7_readFort_36, q_X7_readFort_37, q_X7_readFort_43, q_X7_readFort_44, q_X7_readFort_45, q_X7_readFort_48, q_X7_readFort_49, q_X7_readFort_50, q_X7_readFort_53, q_X7_readFort_54, q_X7_readFort_55, q_X7_readFort_58, q_X7_readFort_59, q_X7_readFort_60, q_X7_readFort_63, q_X7_readFort_64, xpush, xiload, xaload, xlload, xfload, xdload, lkill, xistore, xastore, xfstore, xlstore, xdstore, xiinc, xbin, xdiv, xun, xlbin, xi2l, xi2f, xi2d, xlcmp, xfcmp, xdcmp, xfdiv, xddiv, c1, xdup, xpop, xdup_x1, xdup2, xif, xicmp, xtab, xtabL, xget, xput, xald, xast, xalen, xnew, xnewa, c1s, recvOk, xcall, kont, xret, xlret, xfret, xdret, xaret, xvret, xs, xnewq, xastq, xcopy, xcopyF, xobj, xmax, xmin, xdead, xpushq, xmna, ls0, List.map_cons, List.map_nil, List.length_cons, List.length_nil, List.replicate, List.append_nil, List.cons_append, List.nil_append, List.getElem?_cons_zero, List.getElem?_cons_succ, List.getElem?_nil, List.set_cons_zero, List.set_cons_succ, List.take_succ_cons, List.take_zero, List.drop_succ_cons, List.drop_zero, List.reverse_cons, List.reverse_nil, List.sum_cons, List.sum_nil, Value.category, Option.toList_some, Option.toList_none, Nat.reduceAdd, Nat.reduceSub, Nat.reduceLT, Nat.reduceLeDiff, Nat.zero_add, Nat.le_refl, true_and, and_true, Nat.sub_zero, Nat.zero_lt_succ, Nat.zero_le, Nat.not_lt_zero, Nat.reduceEqDiff, Nat.one_ne_zero, nI_toInt, Int.reduceEq, Int.reduceAdd, Int.reduceLT, Int.reduceLE, Int.cast_ofNat_Int, reduceIte, or_false, false_or, eq_self, or_true, true_or, or_self, nI_clamp, vp_in_nI, nI_ltI, nI_leI, nI_eq, nI_add, nI_zero9, nI_nlt0, nI_le0, nI_lt0, arG, va_rf, not_false_eq_true, not_true_eq_false, false_implies, true_implies, implies_true, ne_eq, okv_int, okv_z0, okv_z1, okv_zN, okv_ref, okv_arr, okv_null, vn_z0, vn_z1, vn_zN, nr_int, nr_z, va_up_self, up_fr, rw1_j, rw1_up, hR]
      exact hK _ (va_up_self _ _ _) (fun q hq => by simp only [up_fr hq])
    · rw [if_neg q5] at hK
      refine ⟨fun h => absurd h q5, fun _ => ?_⟩
      exact hK _ (va_up_self _ _ _) (fun q hq => by simp only [up_fr hq])
  · rw [if_neg q] at hK
    rw [if_neg q]
    simp (disch := omega) only [q_X7_readFort_0, q_X7_readFort_1, q_X7_readFort_3, q_X7_readFort_5, q_X7_readFort_8, q_X7_readFort_11, q_X7_readFort_12, q_X7_readFort_13, q_X7_readFort_14, q_X7_readFort_17, q_X7_readFort_18, q_X7_readFort_21, q_X7_readFort_24, q_X7_readFort_26, q_X7_readFort_27, q_X7_readFort_28, q_X7_readFort_29, q_X7_readFort_32, q_X7_readFort_35, q_X7_readFort_36, q_X7_readFort_37, q_X7_readFort_43, q_X7_readFort_44, q_X7_readFort_45, q_X7_readFort_48, q_X7_readFort_49, q_X7_readFort_50, q_X7_readFort_53, q_X7_readFort_54, q_X7_readFort_55, q_X7_readFort_58, q_X7_readFort_59, q_X7_readFort_60, q_X7_readFort_63, q_X7_readFort_64, xpush, xiload, xaload, xlload, xfload, xdload, lkill, xistore, xastore, xfstore, xlstore, xdstore, xiinc, xbin, xdiv, xun, xlbin, xi2l, xi2f, xi2d, xlcmp, xfcmp, xdcmp, xfdiv, xddiv, c1, xdup, xpop, xdup_x1, xdup2, xif, xicmp, xtab, xtabL, xget, xput, xald, xast, xalen, xnew, xnewa, c1s, recvOk, xcall, kont, xret, xlret, xfret, xdret, xaret, xvret, xs, xnewq, xastq, xcopy, xcopyF, xobj, xmax, xmin, xdead, xpushq, xmna, ls0, List.map_cons, List.map_nil, List.length_cons, List.length_nil, List.replicate, List.append_nil, List.cons_append, List.nil_append, List.getElem?_cons_zero, List.getElem?_cons_succ, List.getElem?_nil, List.set_cons_zero, List.set_cons_succ, List.take_succ_cons, List.take_zero, List.drop_succ_cons, List.drop_zero, List.reverse_cons, List.reverse_nil, List.sum_cons, List.sum_nil, Value.category, Option.toList_some, Option.toList_none, Nat.reduceAdd, Nat.reduceSub, Nat.reduceLT, Nat.reduceLeDiff, Nat.zero_add, Nat.le_refl, true_and, and_true, Nat.sub_zero, Nat.zero_lt_succ, Nat.zero_le, Nat.not_lt_zero, Nat.reduceEqDiff, Nat.one_ne_zero, nI_toInt, Int.reduceEq, Int.reduceAdd, Int.reduceLT, Int.reduceLE, Int.cast_ofNat_Int, reduceIte, or_false, false_or, eq_self, or_true, true_or, or_self, nI_clamp, vp_in_nI, nI_ltI, nI_leI, nI_eq, nI_add, nI_zero9, nI_nlt0, nI_le0, nI_lt0, arG, va_rf, not_false_eq_true, not_true_eq_false, false_implies, true_implies, implies_true, ne_eq, okv_int, okv_z0, okv_z1, okv_zN, okv_ref, okv_arr, okv_null, vn_z0, vn_z1, vn_zN, nr_int, nr_z, va_up_self, up_fr, rw1_j, rw1_up, hR]
    exact hK _ hX.1 (fun q hq => rfl))
abbrev Sp_X7_readDigit (V : Nat → Nat) : Spt := fun as z f K => ∃ (a tb v w z0 : Nat) (T : List Nat) (s : Rs), as = [.ref a] ∧ rX V f a tb v w z0 T s ∧ ∀ f', isRr V f' a tb (rDg T s).2 → (∀ q, q ≠ a → f' q = f q) → K (some (.int (nI (rDg T s).1))) z f'
def rm_X7_readDigit : Room := { frames := 5, cells := 0, slots := 0, locals := 110 }
def q_X7_readDigit_50 (V : Nat → Nat) (ls : Ls) (st : List Value) (z : Zz) (f : Fm) (E : Ej) (R : Kr) : Prop := xret .boolean ls st z f E R
def q_X7_readDigit_49 (V : Nat → Nat) (ls : Ls) (st : List Value) (z : Zz) (f : Fm) (E : Ej) (R : Kr) : Prop := xpush (.int (nI 1)) (q_X7_readDigit_50 V) ls st z f E R
def q_X7_readDigit_46 (V : Nat → Nat) (ls : Ls) (st : List Value) (z : Zz) (f : Fm) (E : Ej) (R : Kr) : Prop := xput 6 1 .int (q_X7_readDigit_49 V) ls st z f E R
def q_X7_readDigit_45 (V : Nat → Nat) (ls : Ls) (st : List Value) (z : Zz) (f : Fm) (E : Ej) (R : Kr) : Prop := xbin (fun x y => x + y) (q_X7_readDigit_46 V) ls st z f E R
def q_X7_readDigit_44 (V : Nat → Nat) (ls : Ls) (st : List Value) (z : Zz) (f : Fm) (E : Ej) (R : Kr) : Prop := xpush (.int (nI 1)) (q_X7_readDigit_45 V) ls st z f E R
def q_X7_readDigit_41 (V : Nat → Nat) (ls : Ls) (st : List Value) (z : Zz) (f : Fm) (E : Ej) (R : Kr) : Prop := xget 6 1 (q_X7_readDigit_44 V) ls st z f E R
def q_X7_readDigit_40 (V : Nat → Nat) (ls : Ls) (st : List Value) (z : Zz) (f : Fm) (E : Ej) (R : Kr) : Prop := xdup (q_X7_readDigit_41 V) ls st z f E R
def q_X7_readDigit_39 (V : Nat → Nat) (ls : Ls) (st : List Value) (z : Zz) (f : Fm) (E : Ej) (R : Kr) : Prop := xaload 0 (q_X7_readDigit_40 V) ls st z f E R
def q_X7_readDigit_36 (V : Nat → Nat) (ls : Ls) (st : List Value) (z : Zz) (f : Fm) (E : Ej) (R : Kr) : Prop := xput 6 5 .int (q_X7_readDigit_39 V) ls st z f E R
def q_X7_readDigit_35 (V : Nat → Nat) (ls : Ls) (st : List Value) (z : Zz) (f : Fm) (E : Ej) (R : Kr) : Prop := xbin (fun x y => x - y) (q_X7_readDigit_36 V) ls st z f E R
def q_X7_readDigit_33 (V : Nat → Nat) (ls : Ls) (st : List Value) (z : Zz) (f : Fm) (E : Ej) (R : Kr) : Prop := xpush (.int (nI 48)) (q_X7_readDigit_35 V) ls st z f E R
def q_X7_readDigit_32 (V : Nat → Nat) (ls : Ls) (st : List Value) (z : Zz) (f : Fm) (E : Ej) (R : Kr) : Prop := xbin (fun x y => x + y) (q_X7_readDigit_33 V) ls st z f E R
def q_X7_readDigit_29 (V : Nat → Nat) (ls : Ls) (st : List Value) (z : Zz) (f : Fm) (E : Ej) (R : Kr) : Prop := xcall 2 1 Sp_J4_charAt_5068e 0 0 (q_X7_readDigit_32 V) ls st z f E R
def q_X7_readDigit_26 (V : Nat → Nat) (ls : Ls) (st : List Value) (z : Zz) (f : Fm) (E : Ej) (R : Kr) : Prop := xget 6 1 (q_X7_readDigit_29 V) ls st z f E R
def q_X7_readDigit_25 (V : Nat → Nat) (ls : Ls) (st : List Value) (z : Zz) (f : Fm) (E : Ej) (R : Kr) : Prop := xaload 0 (q_X7_readDigit_26 V) ls st z f E R
def q_X7_readDigit_22 (V : Nat → Nat) (ls : Ls) (st : List Value) (z : Zz) (f : Fm) (E : Ej) (R : Kr) : Prop := xget 6 0 (q_X7_readDigit_25 V) ls st z f E R
def q_X7_readDigit_21 (V : Nat → Nat) (ls : Ls) (st : List Value) (z : Zz) (f : Fm) (E : Ej) (R : Kr) : Prop := xaload 0 (q_X7_readDigit_22 V) ls st z f E R
def q_X7_readDigit_20 (V : Nat → Nat) (ls : Ls) (st : List Value) (z : Zz) (f : Fm) (E : Ej) (R : Kr) : Prop := xbin (fun x y => x * y) (q_X7_readDigit_21 V) ls st z f E R
def q_X7_readDigit_17 (V : Nat → Nat) (ls : Ls) (st : List Value) (z : Zz) (f : Fm) (E : Ej) (R : Kr) : Prop := xget 6 5 (q_X7_readDigit_20 V) ls st z f E R
def q_X7_readDigit_16 (V : Nat → Nat) (ls : Ls) (st : List Value) (z : Zz) (f : Fm) (E : Ej) (R : Kr) : Prop := xaload 0 (q_X7_readDigit_17 V) ls st z f E R
def q_X7_readDigit_14 (V : Nat → Nat) (ls : Ls) (st : List Value) (z : Zz) (f : Fm) (E : Ej) (R : Kr) : Prop := xpush (.int (nI 10)) (q_X7_readDigit_16 V) ls st z f E R
def q_X7_readDigit_13 (V : Nat → Nat) (ls : Ls) (st : List Value) (z : Zz) (f : Fm) (E : Ej) (R : Kr) : Prop := xaload 0 (q_X7_readDigit_14 V) ls st z f E R
def q_X7_readDigit_12 (V : Nat → Nat) (ls : Ls) (st : List Value) (z : Zz) (f : Fm) (E : Ej) (R : Kr) : Prop := xret .boolean ls st z f E R
def q_X7_readDigit_11 (V : Nat → Nat) (ls : Ls) (st : List Value) (z : Zz) (f : Fm) (E : Ej) (R : Kr) : Prop := xpush (.int (nI 0)) (q_X7_readDigit_12 V) ls st z f E R
def q_X7_readDigit_8 (V : Nat → Nat) (ls : Ls) (st : List Value) (z : Zz) (f : Fm) (E : Ej) (R : Kr) : Prop := xif (fun x => ¬ x = 0) (q_X7_readDigit_13 V) (q_X7_readDigit_11 V) ls st z f E R
def q_X7_readDigit_5 (V : Nat → Nat) (ls : Ls) (st : List Value) (z : Zz) (f : Fm) (E : Ej) (R : Kr) : Prop := xcall 3 7 (Sp_X7_isIn V) 0 0 (q_X7_readDigit_8 V) ls st z f E R
def q_X7_readDigit_3 (V : Nat → Nat) (ls : Ls) (st : List Value) (z : Zz) (f : Fm) (E : Ej) (R : Kr) : Prop := xpush (.int (nI 57)) (q_X7_readDigit_5 V) ls st z f E R
def q_X7_readDigit_1 (V : Nat → Nat) (ls : Ls) (st : List Value) (z : Zz) (f : Fm) (E : Ej) (R : Kr) : Prop := xpush (.int (nI 48)) (q_X7_readDigit_3 V) ls st z f E R
def q_X7_readDigit_0 (V : Nat → Nat) (ls : Ls) (st : List Value) (z : Zz) (f : Fm) (E : Ej) (R : Kr) : Prop := xaload 0 (q_X7_readDigit_1 V) ls st z f E R
set_option maxRecDepth 100000 in
theorem t_X7_readDigit {s0 : State} {D : va_G} {ids : Nat → ClassId} {V : Nat → Nat} {l : Launch} {K : Kr} {E : Ej} (G : GG s0 D ids V) (X : EnX s0 D ids l RX7 cX7_readDigit 1 (some .boolean) "readDigit" rm_X7_readDigit K E) : Sd E K 0 (q_X7_readDigit_0 V) := by
  have h50 : Sd E K 50 (q_X7_readDigit_50 V) := sd_ret X (by decide +kernel : decode cX7_readDigit 50 = .ok (.ireturn, 1))
  have h49 : Sd E K 49 (q_X7_readDigit_49 V) := sd_iconst X (by decide +kernel : decode cX7_readDigit 49 = .ok (.iconst 1, 1)) (by decide +kernel) h50
  have h46 : Sd E K 46 (q_X7_readDigit_46 V) := sd_put X (by decide +kernel : decode cX7_readDigit 46 = .ok (.putfield 18, 3)) ok_X7 (Nat.le_of_ble_eq_true rfl) rfl rfl wd_346 h49
  have h45 : Sd E K 45 (q_X7_readDigit_45 V) := sd_iadd X (by decide +kernel : decode cX7_readDigit 45 = .ok (.iadd, 1)) h46
  have h44 : Sd E K 44 (q_X7_readDigit_44 V) := sd_iconst X (by decide +kernel : decode cX7_readDigit 44 = .ok (.iconst 1, 1)) (by decide +kernel) h45
  have h41 : Sd E K 41 (q_X7_readDigit_41 V) := sd_get X (by decide +kernel : decode cX7_readDigit 41 = .ok (.getfield 18, 3)) ok_X7 (Nat.le_of_ble_eq_true rfl) wd_346 h44
  have h40 : Sd E K 40 (q_X7_readDigit_40 V) := sd_dup X (by decide +kernel : decode cX7_readDigit 40 = .ok (.dup, 1)) h41
  have h39 : Sd E K 39 (q_X7_readDigit_39 V) := sd_aload_n X (by decide +kernel : decode cX7_readDigit 39 = .ok (.aload_n 0, 1)) rfl h40
  have h36 : Sd E K 36 (q_X7_readDigit_36 V) := sd_put X (by decide +kernel : decode cX7_readDigit 36 = .ok (.putfield 37, 3)) ok_X7 (Nat.le_of_ble_eq_true rfl) rfl rfl wd_354 h39
  have h35 : Sd E K 35 (q_X7_readDigit_35 V) := sd_isub X (by decide +kernel : decode cX7_readDigit 35 = .ok (.isub, 1)) h36
  have h33 : Sd E K 33 (q_X7_readDigit_33 V) := sd_bipush X (by decide +kernel : decode cX7_readDigit 33 = .ok (.bipush 48, 2)) (by decide +kernel) h35
  have h32 : Sd E K 32 (q_X7_readDigit_32 V) := sd_iadd X (by decide +kernel : decode cX7_readDigit 32 = .ok (.iadd, 1)) h33
  have h29 : Sd E K 29 (q_X7_readDigit_29 V) := sd_callV (n := 1) (ci := 0) X (ct_J4_charAt_5068e G) (by decide +kernel : decode cX7_readDigit 29 = .ok (.invokevirtual 90, 3)) wd_662 wd_659 wd_660 wd_661 wd_36 (by decide +kernel) (Or.inl ⟨by decide, _, _, rfl⟩) ⟨Nat.le_of_ble_eq_true rfl, Nat.le_of_ble_eq_true rfl⟩ h32
  have h26 : Sd E K 26 (q_X7_readDigit_26 V) := sd_get X (by decide +kernel : decode cX7_readDigit 26 = .ok (.getfield 18, 3)) ok_X7 (Nat.le_of_ble_eq_true rfl) wd_346 h29
  have h25 : Sd E K 25 (q_X7_readDigit_25 V) := sd_aload_n X (by decide +kernel : decode cX7_readDigit 25 = .ok (.aload_n 0, 1)) rfl h26
  have h22 : Sd E K 22 (q_X7_readDigit_22 V) := sd_get X (by decide +kernel : decode cX7_readDigit 22 = .ok (.getfield 12, 3)) ok_X7 (Nat.le_of_ble_eq_true rfl) wd_344 h25
  have h21 : Sd E K 21 (q_X7_readDigit_21 V) := sd_aload_n X (by decide +kernel : decode cX7_readDigit 21 = .ok (.aload_n 0, 1)) rfl h22
  have h20 : Sd E K 20 (q_X7_readDigit_20 V) := sd_imul X (by decide +kernel : decode cX7_readDigit 20 = .ok (.imul, 1)) h21
  have h17 : Sd E K 17 (q_X7_readDigit_17 V) := sd_get X (by decide +kernel : decode cX7_readDigit 17 = .ok (.getfield 37, 3)) ok_X7 (Nat.le_of_ble_eq_true rfl) wd_354 h20
  have h16 : Sd E K 16 (q_X7_readDigit_16 V) := sd_aload_n X (by decide +kernel : decode cX7_readDigit 16 = .ok (.aload_n 0, 1)) rfl h17
  have h14 : Sd E K 14 (q_X7_readDigit_14 V) := sd_bipush X (by decide +kernel : decode cX7_readDigit 14 = .ok (.bipush 10, 2)) (by decide +kernel) h16
  have h13 : Sd E K 13 (q_X7_readDigit_13 V) := sd_aload_n X (by decide +kernel : decode cX7_readDigit 13 = .ok (.aload_n 0, 1)) rfl h14
  have h12 : Sd E K 12 (q_X7_readDigit_12 V) := sd_ret X (by decide +kernel : decode cX7_readDigit 12 = .ok (.ireturn, 1))
  have h11 : Sd E K 11 (q_X7_readDigit_11 V) := sd_iconst X (by decide +kernel : decode cX7_readDigit 11 = .ok (.iconst 0, 1)) (by decide +kernel) h12
  have h8 : Sd E K 8 (q_X7_readDigit_8 V) := sd_if_ne X (by decide +kernel : decode cX7_readDigit 8 = .ok (.ifCond .ne 5, 3)) (by decide) h13 h11
  have h5 : Sd E K 5 (q_X7_readDigit_5 V) := sd_callV (n := 2) (ci := 6) X (ct_X7_isIn G) (by decide +kernel : decode cX7_readDigit 5 = .ok (.invokevirtual 80, 3)) wd_651 wd_648 wd_650 wd_7 wd_34 (by decide +kernel) (Or.inl ⟨by decide, _, _, rfl⟩) ⟨Nat.le_of_ble_eq_true rfl, Nat.le_of_ble_eq_true rfl⟩ h8
  have h3 : Sd E K 3 (q_X7_readDigit_3 V) := sd_bipush X (by decide +kernel : decode cX7_readDigit 3 = .ok (.bipush 57, 2)) (by decide +kernel) h5
  have h1 : Sd E K 1 (q_X7_readDigit_1 V) := sd_bipush X (by decide +kernel : decode cX7_readDigit 1 = .ok (.bipush 48, 2)) (by decide +kernel) h3
  have h0 : Sd E K 0 (q_X7_readDigit_0 V) := sd_aload_n X (by decide +kernel : decode cX7_readDigit 0 = .ok (.aload_n 0, 1)) rfl h1
  exact h0
set_option maxHeartbeats 4000000 in
set_option maxRecDepth 100000 in
theorem ct_X7_readDigit {s0 : State} {D : va_G} {ids : Nat → ClassId} {V : Nat → Nat} {l : Launch} (G : GG s0 D ids V) : CT s0 D ids l yX7_readDigit cX7_readDigit 1 (some .boolean) rm_X7_readDigit (Sp_X7_readDigit V) := CT.of (by decide +kernel) G.k (by
  rintro as z f K E ⟨a, tb, v, w, z0, T, s, rfl, hX, hK⟩ X
  refine ⟨Nat.le_of_ble_eq_true rfl, by simp [Value.category], t_X7_readDigit G X _ _ _ _ ?_⟩
  have hR := hX.1
  have hO := hX.2.1.1
  have hT := hX.2.2.1
  unfold isRr at hR
  simp (disch := omega) only [q_X7_readDigit_0, q_X7_readDigit_1, q_X7_readDigit_3, q_X7_readDigit_5, q_X7_readDigit_8, q_X7_readDigit_11, q_X7_readDigit_12, q_X7_readDigit_13, q_X7_readDigit_14, q_X7_readDigit_16, q_X7_readDigit_17, q_X7_readDigit_20, q_X7_readDigit_21, q_X7_readDigit_22, q_X7_readDigit_25, q_X7_readDigit_26, q_X7_readDigit_29, q_X7_readDigit_32, q_X7_readDigit_33, q_X7_readDigit_35, q_X7_readDigit_36, q_X7_readDigit_39, q_X7_readDigit_40, q_X7_readDigit_41, q_X7_readDigit_44, q_X7_readDigit_45, q_X7_readDigit_46, q_X7_readDigit_49, q_X7_readDigit_50, xpush, xiload, xaload, xlload, xfload, xdload, lkill, xistore, xastore, xfstore, xlstore, xdstore, xiinc, xbin, xdiv, xun, xlbin, xi2l, xi2f, xi2d, xlcmp, xfcmp, xdcmp, xfdiv, xddiv, c1, xdup, xpop, xdup_x1, xdup2, xif, xicmp, xtab, xtabL, xget, xput, xald, xast, xalen, xnew, xnewa, c1s, recvOk, xcall, kont, xret, xlret, xfret, xdret, xaret, xvret, xs, xnewq, xastq, xcopy, xcopyF, xobj, xmax, xmin, xdead, xpushq, xmna, ls0, List.map_cons, List.map_nil, List.length_cons, List.length_nil, List.replicate, List.append_nil, List.cons_append, List.nil_append, List.getElem?_cons_zero, List.getElem?_cons_succ, List.getElem?_nil, List.set_cons_zero, List.set_cons_succ, List.take_succ_cons, List.take_zero, List.drop_succ_cons, List.drop_zero, List.reverse_cons, List.reverse_nil, List.sum_cons, List.sum_nil, Value.category, Option.toList_some, Option.toList_none, Nat.reduceAdd, Nat.reduceSub, Nat.reduceLT, Nat.reduceLeDiff, Nat.zero_add, Nat.le_refl, true_and, and_true, Nat.sub_zero, Nat.zero_lt_succ, Nat.zero_le, Nat.not_lt_zero, Nat.reduceEqDiff, Nat.one_ne_zero, nI_toInt, Int.reduceEq, Int.reduceAdd, Int.reduceLT, Int.reduceLE, Int.cast_ofNat_Int, reduceIte, or_false, false_or, eq_self, or_true, true_or, or_self, nI_clamp, vp_in_nI, nI_ltI, nI_leI, nI_eq, nI_add, nI_zero9, nI_nlt0, nI_le0, nI_lt0, arG, va_rf, not_false_eq_true, not_true_eq_false, false_implies, true_implies, implies_true, ne_eq, okv_int, okv_z0, okv_z1, okv_zN, okv_ref, okv_arr, okv_null, vn_z0, vn_z1, vn_zN, nr_int, nr_z, va_up_self, up_fr, rw1_j, rw1_up, hR]
  refine ⟨a, tb, v, w, z0, 48, 57, T, s, rfl, by omega, by omega, hX, ?_⟩
  unfold rDg at hK
  by_cases q : inN T (s 0) 48 57
  · rw [if_pos q] at hK
    rw [if_pos q]
    obtain ⟨cap, lt, b, i1, -⟩ := id hX.2.2.2.2.1
    simp (disch := omega) only [q_X7_readDigit_0, q_X7_readDigit_1, q_X7_readDigit_3, q_X7_readDigit_5, q_X7_readDigit_8, q_X7_readDigit_11, q_X7_readDigit_12, q_X7_readDigit_13, q_X7_readDigit_14, q_X7_readDigit_16, q_X7_readDigit_17, q_X7_readDigit_20, q_X7_readDigit_21, q_X7_readDigit_22, q_X7_readDigit_25, q_X7_readDigit_26, q_X7_readDigit_29, q_X7_readDigit_32, q_X7_readDigit_33, q_X7_readDigit_35, q_X7_readDigit_36, q_X7_readDigit_39, q_X7_readDigit_40, q_X7_readDigit_41, q_X7_readDigit_44, q_X7_readDigit_45, q_X7_readDigit_46, q_X7_readDigit_49, q_X7_readDigit_50, xpush, xiload, xaload, xlload, xfload, xdload, lkill, xistore, xastore, xfstore, xlstore, xdstore, xiinc, xbin, xdiv, xun, xlbin, xi2l, xi2f, xi2d, xlcmp, xfcmp, xdcmp, xfdiv, xddiv, c1, xdup, xpop, xdup_x1, xdup2, xif, xicmp, xtab, xtabL, xget, xput, xald, xast, xalen, xnew, xnewa, c1s, recvOk, xcall, kont, xret, xlret, xfret, xdret, xaret, xvret, xs, xnewq, xastq, xcopy, xcopyF, xobj, xmax, xmin, xdead, xpushq, xmna, ls0, List.map_cons, List.map_nil, List.length_cons, List.length_nil, List.replicate, List.append_nil, List.cons_append, List.nil_append, List.getElem?_cons_zero, List.getElem?_cons_succ, List.getElem?_nil, List.set_cons_zero, List.set_cons_succ, List.take_succ_cons, List.take_zero, List.drop_succ_cons, List.drop_zero, List.reverse_cons, List.reverse_nil, List.sum_cons, List.sum_nil, Value.category, Option.toList_some, Option.toList_none, Nat.reduceAdd, Nat.reduceSub, Nat.reduceLT, Nat.reduceLeDiff, Nat.zero_add, Nat.le_refl, true_and, and_true, Nat.sub_zero, Nat.zero_lt_succ, Nat.zero_le, Nat.not_lt_zero, Nat.reduceEqDiff, Nat.one_ne_zero, nI_toInt, Int.reduceEq, Int.reduceAdd, Int.reduceLT, Int.reduceLE, Int.cast_ofNat_Int, reduceIte, or_false, false_or, eq_self, or_true, true_or, or_self, nI_clamp, vp_in_nI, nI_ltI, nI_leI, nI_eq, nI_add, nI_zero9, nI_nlt0, nI_le0, nI_lt0, arG, va_rf, not_false_eq_true, not_true_eq_false, false_implies, true_implies, implies_true, ne_eq, okv_int, okv_z0, okv_z1, okv_zN, okv_ref, okv_arr, okv_null, vn_z0, vn_z1, vn_zN, nr_int, nr_z, va_up_self, up_fr, rw1_j, rw1_up, hR, i1]
    refine ⟨tb, v, w, z0, s 0, T, rfl, q.1, hX.2.2.2.2.1, ?_⟩
    have hq := q.2.1
    simp (disch := omega) only [q_X7_readDigit_0, q_X7_readDigit_1, q_X7_readDigit_3, q_X7_readDigit_5, q_X7_readDigit_8, q_X7_readDigit_11, q_X7_readDigit_12, q_X7_readDigit_13, q_X7_readDigit_14, q_X7_readDigit_16, q_X7_readDigit_17, q_X7_readDigit_20, q_X7_readDigit_21, q_X7_readDigit_22, q_X7_readDigit_25, q_X7_readDigit_26, q_X7_readDigit_29, q_X7_readDigit_32, q_X7_readDigit_33, q_X7_readDigit_35, q_X7_readDigit_36, q_X7_readDigit_39, q_X7_readDigit_40, q_X7_readDigit_41, q_X7_readDigit_44, q_X7_readDigit_45, q_X7_readDigit_46, q_X7_readDigit_49, q_X7_readDigit_50, xpush, xiload, xaload, xlload, xfload, xdload, lkill, xistore, xastore, xfstore, xlstore, xdstore, xiinc, xbin, xdiv, xun, xlbin, xi2l, xi2f, xi2d, xlcmp, xfcmp, xdcmp, xfdiv, xddiv, c1, xdup, xpop, xdup_x1, xdup2, xif, xicmp, xtab, xtabL, xget, xput, xald, xast, xalen, xnew, xnewa, c1s, recvOk, xcall, kont, xret, xlret, xfret, xdret, xaret, xvret, xs, xnewq, xastq, xcopy, xcopyF, xobj, xmax, xmin, xdead, xpushq, xmna, ls0, List.map_cons, List.map_nil, List.length_cons, List.length_nil, List.replicate, List.append_nil, List.cons_append, List.nil_append, List.getElem?_cons_zero, List.getElem?_cons_succ, List.getElem?_nil, List.set_cons_zero, List.set_cons_succ, List.take_succ_cons, List.take_zero, List.drop_succ_cons, List.drop_zero, List.reverse_cons, List.reverse_nil, List.sum_cons, List.sum_nil, Value.category, Option.toList_some, Option.toList_none, Nat.reduceAdd, Nat.reduceSub, Nat.reduceLT, Nat.reduceLeDiff, Nat.zero_add, Nat.le_refl, true_and, and_true, Nat.sub_zero, Nat.zero_lt_succ, Nat.zero_le, Nat.not_lt_zero, Nat.reduceEqDiff, Nat.one_ne_zero, nI_toInt, Int.reduceEq, Int.reduceAdd, Int.reduceLT, Int.reduceLE, Int.cast_ofNat_Int, reduceIte, or_false, false_or, eq_self, or_true, true_or, or_self, nI_clamp, vp_in_nI, nI_ltI, nI_leI, nI_eq, nI_add, nI_zero9, nI_nlt0, nI_le0, nI_lt0, arG, va_rf, not_false_eq_true, not_true_eq_false, false_implies, true_implies, implies_true, ne_eq, okv_int, okv_z0, okv_z1, okv_zN, okv_ref, okv_arr, okv_null, vn_z0, vn_z1, vn_zN, nr_int, nr_z, va_up_self, up_fr, rw1_j, rw1_up, hR, nI_mul9, nI_sub]
    exact hK _ (va_up_self _ _ _) (fun q hq => by simp only [up_fr hq])
  · rw [if_neg q] at hK
    rw [if_neg q]
    simp (disch := omega) only [q_X7_readDigit_0, q_X7_readDigit_1, q_X7_readDigit_3, q_X7_readDigit_5, q_X7_readDigit_8, q_X7_readDigit_11, q_X7_readDigit_12, q_X7_readDigit_13, q_X7_readDigit_14, q_X7_readDigit_16, q_X7_readDigit_17, q_X7_readDigit_20, q_X7_readDigit_21, q_X7_readDigit_22, q_X7_readDigit_25, q_X7_readDigit_26, q_X7_readDigit_29, q_X7_readDigit_32, q_X7_readDigit_33, q_X7_readDigit_35, q_X7_readDigit_36, q_X7_readDigit_39, q_X7_readDigit_40, q_X7_readDigit_41, q_X7_readDigit_44, q_X7_readDigit_45, q_X7_readDigit_46, q_X7_readDigit_49, q_X7_readDigit_50, xpush, xiload, xaload, xlload, xfload, xdload, lkill, xistore, xastore, xfstore, xlstore, xdstore, xiinc, xbin, xdiv, xun, xlbin, xi2l, xi2f, xi2d, xlcmp, xfcmp, xdcmp, xfdiv, xddiv, c1, xdup, xpop, xdup_x1, xdup2, xif, xicmp, xtab, xtabL, xget, xput, xald, xast, xalen, xnew, xnewa, c1s, recvOk, xcall, kont, xret, xlret, xfret, xdret, xaret, xvret, xs, xnewq, xastq, xcopy, xcopyF, xobj, xmax, xmin, xdead, xpushq, xmna, ls0, List.map_cons, List.map_nil, List.length_cons, List.length_nil, List.replicate, List.append_nil, List.cons_append, List.nil_append, List.getElem?_cons_zero, List.getElem?_cons_succ, List.getElem?_nil, List.set_cons_zero, List.set_cons_succ, List.take_succ_cons, List.take_zero, List.drop_succ_cons, List.drop_zero, List.reverse_cons, List.reverse_nil, List.sum_cons, List.sum_nil, Value.category, Option.toList_some, Option.toList_none, Nat.reduceAdd, Nat.reduceSub, Nat.reduceLT, Nat.reduceLeDiff, Nat.zero_add, Nat.le_refl, true_and, and_true, Nat.sub_zero, Nat.zero_lt_succ, Nat.zero_le, Nat.not_lt_zero, Nat.reduceEqDiff, Nat.one_ne_zero, nI_toInt, Int.reduceEq, Int.reduceAdd, Int.reduceLT, Int.reduceLE, Int.cast_ofNat_Int, reduceIte, or_false, false_or, eq_self, or_true, true_or, or_self, nI_clamp, vp_in_nI, nI_ltI, nI_leI, nI_eq, nI_add, nI_zero9, nI_nlt0, nI_le0, nI_lt0, arG, va_rf, not_false_eq_true, not_true_eq_false, false_implies, true_implies, implies_true, ne_eq, okv_int, okv_z0, okv_z1, okv_zN, okv_ref, okv_arr, okv_null, vn_z0, vn_z1, vn_zN, nr_int, nr_z, va_up_self, up_fr, rw1_j, rw1_up, hR]
    exact hK _ hX.1 (fun q hq => rfl))
abbrev Sp_X7_readPart (V : Nat → Nat) : Spt := fun as z f K => ∃ (a tb v w z0 c : Nat) (T : List Nat) (s : Rs), as = [.ref a, .int (nI c)] ∧ c < 128 ∧ rX V f a tb v w z0 T s ∧ ∀ f', isRr V f' a tb (rPt T c s).2 → (∀ q, q ≠ a → f' q = f q) → K (some (.int (nI (rPt T c s).1))) z f'
def rm_X7_readPart : Room := { frames := 6, cells := 0, slots := 0, locals := 131 }
def q_X7_readPart_40 (V : Nat → Nat) (ls : Ls) (st : List Value) (z : Zz) (f : Fm) (E : Ej) (R : Kr) : Prop := xret .boolean ls st z f E R
def q_X7_readPart_37 (V : Nat → Nat) (ls : Ls) (st : List Value) (z : Zz) (f : Fm) (E : Ej) (R : Kr) : Prop := xcall 2 7 (Sp_X7_skip V) 0 0 (q_X7_readPart_40 V) ls st z f E R
def q_X7_readPart_36 (V : Nat → Nat) (ls : Ls) (st : List Value) (z : Zz) (f : Fm) (E : Ej) (R : Kr) : Prop := xiload 1 (q_X7_readPart_37 V) ls st z f E R
def q_X7_readPart_35 (V : Nat → Nat) (ls : Ls) (st : List Value) (z : Zz) (f : Fm) (E : Ej) (R : Kr) : Prop := xaload 0 (q_X7_readPart_36 V) ls st z f E R
def q_X7_readPart_34 (V : Nat → Nat) (ls : Ls) (st : List Value) (z : Zz) (f : Fm) (E : Ej) (R : Kr) : Prop := xret .boolean ls st z f E R
def q_X7_readPart_33 (V : Nat → Nat) (ls : Ls) (st : List Value) (z : Zz) (f : Fm) (E : Ej) (R : Kr) : Prop := xpush (.int (nI 1)) (q_X7_readPart_34 V) ls st z f E R
def q_X7_readPart_32 (V : Nat → Nat) (ls : Ls) (st : List Value) (z : Zz) (f : Fm) (E : Ej) (R : Kr) : Prop := xpop (q_X7_readPart_33 V) ls st z f E R
def q_X7_readPart_29 (V : Nat → Nat) (ls : Ls) (st : List Value) (z : Zz) (f : Fm) (E : Ej) (R : Kr) : Prop := xcall 1 7 (Sp_X7_readDigit V) 0 0 (q_X7_readPart_32 V) ls st z f E R
def q_X7_readPart_28 (V : Nat → Nat) (ls : Ls) (st : List Value) (z : Zz) (f : Fm) (E : Ej) (R : Kr) : Prop := xaload 0 (q_X7_readPart_29 V) ls st z f E R
def q_X7_readPart_25 (V : Nat → Nat) (ls : Ls) (st : List Value) (z : Zz) (f : Fm) (E : Ej) (R : Kr) : Prop := xicmp (fun x y => ¬ x = y) (q_X7_readPart_35 V) (q_X7_readPart_28 V) ls st z f E R
def q_X7_readPart_23 (V : Nat → Nat) (ls : Ls) (st : List Value) (z : Zz) (f : Fm) (E : Ej) (R : Kr) : Prop := xpush (.int (nI 63)) (q_X7_readPart_25 V) ls st z f E R
def q_X7_readPart_22 (V : Nat → Nat) (ls : Ls) (st : List Value) (z : Zz) (f : Fm) (E : Ej) (R : Kr) : Prop := xiload 1 (q_X7_readPart_23 V) ls st z f E R
def q_X7_readPart_21 (V : Nat → Nat) (ls : Ls) (st : List Value) (z : Zz) (f : Fm) (E : Ej) (R : Kr) : Prop := xret .boolean ls st z f E R
def q_X7_readPart_18 (V : Nat → Nat) (ls : Ls) (st : List Value) (z : Zz) (f : Fm) (E : Ej) (R : Kr) : Prop := xcall 1 7 (Sp_X7_readDigit V) 0 0 (q_X7_readPart_21 V) ls st z f E R
def q_X7_readPart_17 (V : Nat → Nat) (ls : Ls) (st : List Value) (z : Zz) (f : Fm) (E : Ej) (R : Kr) : Prop := xaload 0 (q_X7_readPart_18 V) ls st z f E R
def q_X7_readPart_14 (V : Nat → Nat) (ls : Ls) (st : List Value) (z : Zz) (f : Fm) (E : Ej) (R : Kr) : Prop := xicmp (fun x y => ¬ x = y) (q_X7_readPart_22 V) (q_X7_readPart_17 V) ls st z f E R
def q_X7_readPart_12 (V : Nat → Nat) (ls : Ls) (st : List Value) (z : Zz) (f : Fm) (E : Ej) (R : Kr) : Prop := xpush (.int (nI 68)) (q_X7_readPart_14 V) ls st z f E R
def q_X7_readPart_11 (V : Nat → Nat) (ls : Ls) (st : List Value) (z : Zz) (f : Fm) (E : Ej) (R : Kr) : Prop := xiload 1 (q_X7_readPart_12 V) ls st z f E R
def q_X7_readPart_10 (V : Nat → Nat) (ls : Ls) (st : List Value) (z : Zz) (f : Fm) (E : Ej) (R : Kr) : Prop := xret .boolean ls st z f E R
def q_X7_readPart_7 (V : Nat → Nat) (ls : Ls) (st : List Value) (z : Zz) (f : Fm) (E : Ej) (R : Kr) : Prop := xcall 1 7 (Sp_X7_readFort V) 0 0 (q_X7_readPart_10 V) ls st z f E R
def q_X7_readPart_6 (V : Nat → Nat) (ls : Ls) (st : List Value) (z : Zz) (f : Fm) (E : Ej) (R : Kr) : Prop := xaload 0 (q_X7_readPart_7 V) ls st z f E R
def q_X7_readPart_3 (V : Nat → Nat) (ls : Ls) (st : List Value) (z : Zz) (f : Fm) (E : Ej) (R : Kr) : Prop := xicmp (fun x y => ¬ x = y) (q_X7_readPart_11 V) (q_X7_readPart_6 V) ls st z f E R
def q_X7_readPart_1 (V : Nat → Nat) (ls : Ls) (st : List Value) (z : Zz) (f : Fm) (E : Ej) (R : Kr) : Prop := xpush (.int (nI 70)) (q_X7_readPart_3 V) ls st z f E R
def q_X7_readPart_0 (V : Nat → Nat) (ls : Ls) (st : List Value) (z : Zz) (f : Fm) (E : Ej) (R : Kr) : Prop := xiload 1 (q_X7_readPart_1 V) ls st z f E R
set_option maxRecDepth 100000 in
theorem t_X7_readPart {s0 : State} {D : va_G} {ids : Nat → ClassId} {V : Nat → Nat} {l : Launch} {K : Kr} {E : Ej} (G : GG s0 D ids V) (X : EnX s0 D ids l RX7 cX7_readPart 2 (some .boolean) "readPart" rm_X7_readPart K E) : Sd E K 0 (q_X7_readPart_0 V) := by
  have h40 : Sd E K 40 (q_X7_readPart_40 V) := sd_ret X (by decide +kernel : decode cX7_readPart 40 = .ok (.ireturn, 1))
  have h37 : Sd E K 37 (q_X7_readPart_37 V) := sd_callV (n := 1) (ci := 6) X (ct_X7_skip G) (by decide +kernel : decode cX7_readPart 37 = .ok (.invokevirtual 55, 3)) wd_692 wd_689 wd_691 wd_11 wd_34 (by decide +kernel) (Or.inl ⟨by decide, _, _, rfl⟩) ⟨Nat.le_of_ble_eq_true rfl, Nat.le_of_ble_eq_true rfl⟩ h40
  have h36 : Sd E K 36 (q_X7_readPart_36 V) := sd_iload_n X (by decide +kernel : decode cX7_readPart 36 = .ok (.iload_n 1, 1)) rfl h37
  have h35 : Sd E K 35 (q_X7_readPart_35 V) := sd_aload_n X (by decide +kernel : decode cX7_readPart 35 = .ok (.aload_n 0, 1)) rfl h36
  have h34 : Sd E K 34 (q_X7_readPart_34 V) := sd_ret X (by decide +kernel : decode cX7_readPart 34 = .ok (.ireturn, 1))
  have h33 : Sd E K 33 (q_X7_readPart_33 V) := sd_iconst X (by decide +kernel : decode cX7_readPart 33 = .ok (.iconst 1, 1)) (by decide +kernel) h34
  have h32 : Sd E K 32 (q_X7_readPart_32 V) := sd_pop X (by decide +kernel : decode cX7_readPart 32 = .ok (.pop, 1)) h33
  have h29 : Sd E K 29 (q_X7_readPart_29 V) := sd_callV (n := 0) (ci := 6) X (ct_X7_readDigit G) (by decide +kernel : decode cX7_readPart 29 = .ok (.invokevirtual 87, 3)) wd_688 wd_685 wd_687 wd_10 wd_34 (by decide +kernel) (Or.inl ⟨by decide, _, _, rfl⟩) ⟨Nat.le_of_ble_eq_true rfl, Nat.le_of_ble_eq_true rfl⟩ h32
  have h28 : Sd E K 28 (q_X7_readPart_28 V) := sd_aload_n X (by decide +kernel : decode cX7_readPart 28 = .ok (.aload_n 0, 1)) rfl h29
  have h25 : Sd E K 25 (q_X7_readPart_25 V) := sd_icmp_ne X (by decide +kernel : decode cX7_readPart 25 = .ok (.if_icmp .ne 10, 3)) (by decide) h35 h28
  have h23 : Sd E K 23 (q_X7_readPart_23 V) := sd_bipush X (by decide +kernel : decode cX7_readPart 23 = .ok (.bipush 63, 2)) (by decide +kernel) h25
  have h22 : Sd E K 22 (q_X7_readPart_22 V) := sd_iload_n X (by decide +kernel : decode cX7_readPart 22 = .ok (.iload_n 1, 1)) rfl h23
  have h21 : Sd E K 21 (q_X7_readPart_21 V) := sd_ret X (by decide +kernel : decode cX7_readPart 21 = .ok (.ireturn, 1))
  have h18 : Sd E K 18 (q_X7_readPart_18 V) := sd_callV (n := 0) (ci := 6) X (ct_X7_readDigit G) (by decide +kernel : decode cX7_readPart 18 = .ok (.invokevirtual 87, 3)) wd_688 wd_685 wd_687 wd_10 wd_34 (by decide +kernel) (Or.inl ⟨by decide, _, _, rfl⟩) ⟨Nat.le_of_ble_eq_true rfl, Nat.le_of_ble_eq_true rfl⟩ h21
  have h17 : Sd E K 17 (q_X7_readPart_17 V) := sd_aload_n X (by decide +kernel : decode cX7_readPart 17 = .ok (.aload_n 0, 1)) rfl h18
  have h14 : Sd E K 14 (q_X7_readPart_14 V) := sd_icmp_ne X (by decide +kernel : decode cX7_readPart 14 = .ok (.if_icmp .ne 8, 3)) (by decide) h22 h17
  have h12 : Sd E K 12 (q_X7_readPart_12 V) := sd_bipush X (by decide +kernel : decode cX7_readPart 12 = .ok (.bipush 68, 2)) (by decide +kernel) h14
  have h11 : Sd E K 11 (q_X7_readPart_11 V) := sd_iload_n X (by decide +kernel : decode cX7_readPart 11 = .ok (.iload_n 1, 1)) rfl h12
  have h10 : Sd E K 10 (q_X7_readPart_10 V) := sd_ret X (by decide +kernel : decode cX7_readPart 10 = .ok (.ireturn, 1))
  have h7 : Sd E K 7 (q_X7_readPart_7 V) := sd_callV (n := 0) (ci := 6) X (ct_X7_readFort G) (by decide +kernel : decode cX7_readPart 7 = .ok (.invokevirtual 84, 3)) wd_684 wd_681 wd_683 wd_9 wd_34 (by decide +kernel) (Or.inl ⟨by decide, _, _, rfl⟩) ⟨Nat.le_of_ble_eq_true rfl, Nat.le_of_ble_eq_true rfl⟩ h10
  have h6 : Sd E K 6 (q_X7_readPart_6 V) := sd_aload_n X (by decide +kernel : decode cX7_readPart 6 = .ok (.aload_n 0, 1)) rfl h7
  have h3 : Sd E K 3 (q_X7_readPart_3 V) := sd_icmp_ne X (by decide +kernel : decode cX7_readPart 3 = .ok (.if_icmp .ne 8, 3)) (by decide) h11 h6
  have h1 : Sd E K 1 (q_X7_readPart_1 V) := sd_bipush X (by decide +kernel : decode cX7_readPart 1 = .ok (.bipush 70, 2)) (by decide +kernel) h3
  have h0 : Sd E K 0 (q_X7_readPart_0 V) := sd_iload_n X (by decide +kernel : decode cX7_readPart 0 = .ok (.iload_n 1, 1)) rfl h1
  exact h0
set_option maxHeartbeats 4000000 in
set_option maxRecDepth 100000 in
theorem ct_X7_readPart {s0 : State} {D : va_G} {ids : Nat → ClassId} {V : Nat → Nat} {l : Launch} (G : GG s0 D ids V) : CT s0 D ids l yX7_readPart cX7_readPart 2 (some .boolean) rm_X7_readPart (Sp_X7_readPart V) := CT.of (by decide +kernel) G.k (by
  rintro as z f K E ⟨a, tb, v, w, z0, c, T, s, rfl, hc, hX, hK⟩ X
  refine ⟨Nat.le_of_ble_eq_true rfl, by simp [Value.category], t_X7_readPart G X _ _ _ _ ?_⟩
  have hR := hX.1
  have hk := (rPt_ok (c := c) hX.2.1).2
  unfold isRr at hR
  unfold rPt at hK hk
  simp (disch := omega) only [q_X7_readPart_0, q_X7_readPart_1, q_X7_readPart_3, q_X7_readPart_6, q_X7_readPart_7, q_X7_readPart_10, q_X7_readPart_11, q_X7_readPart_12, q_X7_readPart_14, q_X7_readPart_17, q_X7_readPart_18, q_X7_readPart_21, q_X7_readPart_22, q_X7_readPart_23, q_X7_readPart_25, q_X7_readPart_28, q_X7_readPart_29, q_X7_readPart_32, q_X7_readPart_33, q_X7_readPart_34, q_X7_readPart_35, q_X7_readPart_36, q_X7_readPart_37, q_X7_readPart_40, xpush, xiload, xaload, xlload, xfload, xdload, lkill, xistore, xastore, xfstore, xlstore, xdstore, xiinc, xbin, xdiv, xun, xlbin, xi2l, xi2f, xi2d, xlcmp, xfcmp, xdcmp, xfdiv, xddiv, c1, xdup, xpop, xdup_x1, xdup2, xif, xicmp, xtab, xtabL, xget, xput, xald, xast, xalen, xnew, xnewa, c1s, recvOk, xcall, kont, xret, xlret, xfret, xdret, xaret, xvret, xs, xnewq, xastq, xcopy, xcopyF, xobj, xmax, xmin, xdead, xpushq, xmna, ls0, List.map_cons, List.map_nil, List.length_cons, List.length_nil, List.replicate, List.append_nil, List.cons_append, List.nil_append, List.getElem?_cons_zero, List.getElem?_cons_succ, List.getElem?_nil, List.set_cons_zero, List.set_cons_succ, List.take_succ_cons, List.take_zero, List.drop_succ_cons, List.drop_zero, List.reverse_cons, List.reverse_nil, List.sum_cons, List.sum_nil, Value.category, Option.toList_some, Option.toList_none, Nat.reduceAdd, Nat.reduceSub, Nat.reduceLT, Nat.reduceLeDiff, Nat.zero_add, Nat.le_refl, true_and, and_true, Nat.sub_zero, Nat.zero_lt_succ, Nat.zero_le, Nat.not_lt_zero, Nat.reduceEqDiff, Nat.one_ne_zero, nI_toInt, Int.reduceEq, Int.reduceAdd, Int.reduceLT, Int.reduceLE, Int.cast_ofNat_Int, reduceIte, or_false, false_or, eq_self, or_true, true_or, or_self, nI_clamp, vp_in_nI, nI_ltI, nI_leI, nI_eq, nI_add, nI_zero9, nI_nlt0, nI_le0, nI_lt0, arG, va_rf, not_false_eq_true, not_true_eq_false, false_implies, true_implies, implies_true, ne_eq, okv_int, okv_z0, okv_z1, okv_zN, okv_ref, okv_arr, okv_null, vn_z0, vn_z1, vn_zN, nr_int, nr_z, va_up_self, up_fr, rw1_j, rw1_up, hR]
  refine ⟨fun q => ⟨fun q1 => ⟨fun q2 => ?_, fun q2 => ?_⟩, fun q1 => ?_⟩, fun q => ?_⟩
  · rw [if_neg q, if_neg q1, if_neg q2] at hK hk
    refine ⟨a, tb, v, w, z0, c, T, s, rfl, by omega, hX, fun f1 g1 fr1 => ?_⟩
    simp (disch := omega) only [q_X7_readPart_0, q_X7_readPart_1, q_X7_readPart_3, q_X7_readPart_6, q_X7_readPart_7, q_X7_readPart_10, q_X7_readPart_11, q_X7_readPart_12, q_X7_readPart_14, q_X7_readPart_17, q_X7_readPart_18, q_X7_readPart_21, q_X7_readPart_22, q_X7_readPart_23, q_X7_readPart_25, q_X7_readPart_28, q_X7_readPart_29, q_X7_readPart_32, q_X7_readPart_33, q_X7_readPart_34, q_X7_readPart_35, q_X7_readPart_36, q_X7_readPart_37, q_X7_readPart_40, xpush, xiload, xaload, xlload, xfload, xdload, lkill, xistore, xastore, xfstore, xlstore, xdstore, xiinc, xbin, xdiv, xun, xlbin, xi2l, xi2f, xi2d, xlcmp, xfcmp, xdcmp, xfdiv, xddiv, c1, xdup, xpop, xdup_x1, xdup2, xif, xicmp, xtab, xtabL, xget, xput, xald, xast, xalen, xnew, xnewa, c1s, recvOk, xcall, kont, xret, xlret, xfret, xdret, xaret, xvret, xs, xnewq, xastq, xcopy, xcopyF, xobj, xmax, xmin, xdead, xpushq, xmna, ls0, List.map_cons, List.map_nil, List.length_cons, List.length_nil, List.replicate, List.append_nil, List.cons_append, List.nil_append, List.getElem?_cons_zero, List.getElem?_cons_succ, List.getElem?_nil, List.set_cons_zero, List.set_cons_succ, List.take_succ_cons, List.take_zero, List.drop_succ_cons, List.drop_zero, List.reverse_cons, List.reverse_nil, List.sum_cons, List.sum_nil, Value.category, Option.toList_some, Option.toList_none, Nat.reduceAdd, Nat.reduceSub, Nat.reduceLT, Nat.reduceLeDiff, Nat.zero_add, Nat.le_refl, true_and, and_true, Nat.sub_zero, Nat.zero_lt_succ, Nat.zero_le, Nat.not_lt_zero, Nat.reduceEqDiff, Nat.one_ne_zero, nI_toInt, Int.reduceEq, Int.reduceAdd, Int.reduceLT, Int.reduceLE, Int.cast_ofNat_Int, reduceIte, or_false, false_or, eq_self, or_true, true_or, or_self, nI_clamp, vp_in_nI, nI_ltI, nI_leI, nI_eq, nI_add, nI_zero9, nI_nlt0, nI_le0, nI_lt0, arG, va_rf, not_false_eq_true, not_true_eq_false, false_implies, true_implies, implies_true, ne_eq, okv_int, okv_z0, okv_z1, okv_zN, okv_ref, okv_arr, okv_null, vn_z0, vn_z1, vn_zN, nr_int, nr_z, va_up_self, up_fr, rw1_j, rw1_up]
    exact hK f1 g1 fr1
  · rw [if_neg q, if_neg q1, if_pos (Decidable.not_not.mp q2)] at hK hk
    refine ⟨a, tb, v, w, z0, T, s, rfl, hX, fun f1 g1 fr1 => ?_⟩
    simp (disch := omega) only [q_X7_readPart_0, q_X7_readPart_1, q_X7_readPart_3, q_X7_readPart_6, q_X7_readPart_7, q_X7_readPart_10, q_X7_readPart_11, q_X7_readPart_12, q_X7_readPart_14, q_X7_readPart_17, q_X7_readPart_18, q_X7_readPart_21, q_X7_readPart_22, q_X7_readPart_23, q_X7_readPart_25, q_X7_readPart_28, q_X7_readPart_29, q_X7_readPart_32, q_X7_readPart_33, q_X7_readPart_34, q_X7_readPart_35, q_X7_readPart_36, q_X7_readPart_37, q_X7_readPart_40, xpush, xiload, xaload, xlload, xfload, xdload, lkill, xistore, xastore, xfstore, xlstore, xdstore, xiinc, xbin, xdiv, xun, xlbin, xi2l, xi2f, xi2d, xlcmp, xfcmp, xdcmp, xfdiv, xddiv, c1, xdup, xpop, xdup_x1, xdup2, xif, xicmp, xtab, xtabL, xget, xput, xald, xast, xalen, xnew, xnewa, c1s, recvOk, xcall, kont, xret, xlret, xfret, xdret, xaret, xvret, xs, xnewq, xastq, xcopy, xcopyF, xobj, xmax, xmin, xdead, xpushq, xmna, ls0, List.map_cons, List.map_nil, List.length_cons, List.length_nil, List.replicate, List.append_nil, List.cons_append, List.nil_append, List.getElem?_cons_zero, List.getElem?_cons_succ, List.getElem?_nil, List.set_cons_zero, List.set_cons_succ, List.take_succ_cons, List.take_zero, List.drop_succ_cons, List.drop_zero, List.reverse_cons, List.reverse_nil, List.sum_cons, List.sum_nil, Value.category, Option.toList_some, Option.toList_none, Nat.reduceAdd, Nat.reduceSub, Nat.reduceLT, Nat.reduceLeDiff, Nat.zero_add, Nat.le_refl, true_and, and_true, Nat.sub_zero, Nat.zero_lt_succ, Nat.zero_le, Nat.not_lt_zero, Nat.reduceEqDiff, Nat.one_ne_zero, nI_toInt, Int.reduceEq, Int.reduceAdd, Int.reduceLT, Int.reduceLE, Int.cast_ofNat_Int, reduceIte, or_false, false_or, eq_self, or_true, true_or, or_self, nI_clamp, vp_in_nI, nI_ltI, nI_leI, nI_eq, nI_add, nI_zero9, nI_nlt0, nI_le0, nI_lt0, arG, va_rf, not_false_eq_true, not_true_eq_false, false_implies, true_implies, implies_true, ne_eq, okv_int, okv_z0, okv_z1, okv_zN, okv_ref, okv_arr, okv_null, vn_z0, vn_z1, vn_zN, nr_int, nr_z, va_up_self, up_fr, rw1_j, rw1_up]
    exact hK f1 g1 fr1
  · rw [if_neg q, if_pos (Decidable.not_not.mp q1)] at hK hk
    refine ⟨a, tb, v, w, z0, T, s, rfl, hX, fun f1 g1 fr1 => ?_⟩
    simp (disch := omega) only [q_X7_readPart_0, q_X7_readPart_1, q_X7_readPart_3, q_X7_readPart_6, q_X7_readPart_7, q_X7_readPart_10, q_X7_readPart_11, q_X7_readPart_12, q_X7_readPart_14, q_X7_readPart_17, q_X7_readPart_18, q_X7_readPart_21, q_X7_readPart_22, q_X7_readPart_23, q_X7_readPart_25, q_X7_readPart_28, q_X7_readPart_29, q_X7_readPart_32, q_X7_readPart_33, q_X7_readPart_34, q_X7_readPart_35, q_X7_readPart_36, q_X7_readPart_37, q_X7_readPart_40, xpush, xiload, xaload, xlload, xfload, xdload, lkill, xistore, xastore, xfstore, xlstore, xdstore, xiinc, xbin, xdiv, xun, xlbin, xi2l, xi2f, xi2d, xlcmp, xfcmp, xdcmp, xfdiv, xddiv, c1, xdup, xpop, xdup_x1, xdup2, xif, xicmp, xtab, xtabL, xget, xput, xald, xast, xalen, xnew, xnewa, c1s, recvOk, xcall, kont, xret, xlret, xfret, xdret, xaret, xvret, xs, xnewq, xastq, xcopy, xcopyF, xobj, xmax, xmin, xdead, xpushq, xmna, ls0, List.map_cons, List.map_nil, List.length_cons, List.length_nil, List.replicate, List.append_nil, List.cons_append, List.nil_append, List.getElem?_cons_zero, List.getElem?_cons_succ, List.getElem?_nil, List.set_cons_zero, List.set_cons_succ, List.take_succ_cons, List.take_zero, List.drop_succ_cons, List.drop_zero, List.reverse_cons, List.reverse_nil, List.sum_cons, List.sum_nil, Value.category, Option.toList_some, Option.toList_none, Nat.reduceAdd, Nat.reduceSub, Nat.reduceLT, Nat.reduceLeDiff, Nat.zero_add, Nat.le_refl, true_and, and_true, Nat.sub_zero, Nat.zero_lt_succ, Nat.zero_le, Nat.not_lt_zero, Nat.reduceEqDiff, Nat.one_ne_zero, nI_toInt, Int.reduceEq, Int.reduceAdd, Int.reduceLT, Int.reduceLE, Int.cast_ofNat_Int, reduceIte, or_false, false_or, eq_self, or_true, true_or, or_self, nI_clamp, vp_in_nI, nI_ltI, nI_leI, nI_eq, nI_add, nI_zero9, nI_nlt0, nI_le0, nI_lt0, arG, va_rf, not_false_eq_true, not_true_eq_false, false_implies, true_implies, implies_true, ne_eq, okv_int, okv_z0, okv_z1, okv_zN, okv_ref, okv_arr, okv_null, vn_z0, vn_z1, vn_zN, nr_int, nr_z, va_up_self, up_fr, rw1_j, rw1_up]
    exact hK f1 g1 fr1
  · rw [if_pos (Decidable.not_not.mp q)] at hK hk
    refine ⟨a, tb, v, w, z0, T, s, rfl, hX, fun f1 g1 fr1 => ?_⟩
    simp (disch := omega) only [q_X7_readPart_0, q_X7_readPart_1, q_X7_readPart_3, q_X7_readPart_6, q_X7_readPart_7, q_X7_readPart_10, q_X7_readPart_11, q_X7_readPart_12, q_X7_readPart_14, q_X7_readPart_17, q_X7_readPart_18, q_X7_readPart_21, q_X7_readPart_22, q_X7_readPart_23, q_X7_readPart_25, q_X7_readPart_28, q_X7_readPart_29, q_X7_readPart_32, q_X7_readPart_33, q_X7_readPart_34, q_X7_readPart_35, q_X7_readPart_36, q_X7_readPart_37, q_X7_readPart_40, xpush, xiload, xaload, xlload, xfload, xdload, lkill, xistore, xastore, xfstore, xlstore, xdstore, xiinc, xbin, xdiv, xun, xlbin, xi2l, xi2f, xi2d, xlcmp, xfcmp, xdcmp, xfdiv, xddiv, c1, xdup, xpop, xdup_x1, xdup2, xif, xicmp, xtab, xtabL, xget, xput, xald, xast, xalen, xnew, xnewa, c1s, recvOk, xcall, kont, xret, xlret, xfret, xdret, xaret, xvret, xs, xnewq, xastq, xcopy, xcopyF, xobj, xmax, xmin, xdead, xpushq, xmna, ls0, List.map_cons, List.map_nil, List.length_cons, List.length_nil, List.replicate, List.append_nil, List.cons_append, List.nil_append, List.getElem?_cons_zero, List.getElem?_cons_succ, List.getElem?_nil, List.set_cons_zero, List.set_cons_succ, List.take_succ_cons, List.take_zero, List.drop_succ_cons, List.drop_zero, List.reverse_cons, List.reverse_nil, List.sum_cons, List.sum_nil, Value.category, Option.toList_some, Option.toList_none, Nat.reduceAdd, Nat.reduceSub, Nat.reduceLT, Nat.reduceLeDiff, Nat.zero_add, Nat.le_refl, true_and, and_true, Nat.sub_zero, Nat.zero_lt_succ, Nat.zero_le, Nat.not_lt_zero, Nat.reduceEqDiff, Nat.one_ne_zero, nI_toInt, Int.reduceEq, Int.reduceAdd, Int.reduceLT, Int.reduceLE, Int.cast_ofNat_Int, reduceIte, or_false, false_or, eq_self, or_true, true_or, or_self, nI_clamp, vp_in_nI, nI_ltI, nI_leI, nI_eq, nI_add, nI_zero9, nI_nlt0, nI_le0, nI_lt0, arG, va_rf, not_false_eq_true, not_true_eq_false, false_implies, true_implies, implies_true, ne_eq, okv_int, okv_z0, okv_z1, okv_zN, okv_ref, okv_arr, okv_null, vn_z0, vn_z1, vn_zN, nr_int, nr_z, va_up_self, up_fr, rw1_j, rw1_up]
    exact hK f1 g1 fr1)
abbrev Sp_X7_findKind (V : Nat → Nat) : Spt := fun as z f K => ∃ (a tb v w z0 : Nat) (T : List Nat) (s : Rs), as = [.ref a] ∧ rX V f a tb v w z0 T s ∧ ∀ f', isRr V f' a tb (if fkD T (s 0) 9 = 9 then s else hup s 1 (fkD T (s 0) 9)) → (∀ q, q ≠ a → f' q = f q) → K (some (.int (nI (if fkD T (s 0) 9 = 9 then 0 else 1)))) z f'
def rm_X7_findKind : Room := { frames := 5, cells := 0, slots := 0, locals := 110 }
def q_X7_findKind_59 (V : Nat → Nat) (ls : Ls) (st : List Value) (z : Zz) (f : Fm) (E : Ej) (R : Kr) : Prop := xret .boolean ls st z f E R
def q_X7_findKind_58 (V : Nat → Nat) (ls : Ls) (st : List Value) (z : Zz) (f : Fm) (E : Ej) (R : Kr) : Prop := xpush (.int (nI 0)) (q_X7_findKind_59 V) ls st z f E R
def q_X7_findKind_52 (V : Nat → Nat) (ls : Ls) (st : List Value) (z : Zz) (f : Fm) (E : Ej) (R : Kr) : Prop := xiinc 1 (nI 1) (xs 2) ls st z f E R
def q_X7_findKind_51 (V : Nat → Nat) (ls : Ls) (st : List Value) (z : Zz) (f : Fm) (E : Ej) (R : Kr) : Prop := xret .boolean ls st z f E R
def q_X7_findKind_50 (V : Nat → Nat) (ls : Ls) (st : List Value) (z : Zz) (f : Fm) (E : Ej) (R : Kr) : Prop := xpush (.int (nI 1)) (q_X7_findKind_51 V) ls st z f E R
def q_X7_findKind_47 (V : Nat → Nat) (ls : Ls) (st : List Value) (z : Zz) (f : Fm) (E : Ej) (R : Kr) : Prop := xput 6 2 (.object "FortHeralds$Kind") (q_X7_findKind_50 V) ls st z f E R
def q_X7_findKind_46 (V : Nat → Nat) (ls : Ls) (st : List Value) (z : Zz) (f : Fm) (E : Ej) (R : Kr) : Prop := xald 5 5 (q_X7_findKind_47 V) ls st z f E R
def q_X7_findKind_45 (V : Nat → Nat) (ls : Ls) (st : List Value) (z : Zz) (f : Fm) (E : Ej) (R : Kr) : Prop := xiload 1 (q_X7_findKind_46 V) ls st z f E R
def q_X7_findKind_42 (V : Nat → Nat) (ls : Ls) (st : List Value) (z : Zz) (f : Fm) (E : Ej) (R : Kr) : Prop := xpush (.ref (V 3)) (q_X7_findKind_45 V) ls st z f E R
def q_X7_findKind_41 (V : Nat → Nat) (ls : Ls) (st : List Value) (z : Zz) (f : Fm) (E : Ej) (R : Kr) : Prop := xaload 0 (q_X7_findKind_42 V) ls st z f E R
def q_X7_findKind_38 (V : Nat → Nat) (ls : Ls) (st : List Value) (z : Zz) (f : Fm) (E : Ej) (R : Kr) : Prop := xif (fun x => x = 0) (q_X7_findKind_52 V) (q_X7_findKind_41 V) ls st z f E R
def q_X7_findKind_35 (V : Nat → Nat) (ls : Ls) (st : List Value) (z : Zz) (f : Fm) (E : Ej) (R : Kr) : Prop := xcall 3 7 (Sp_X7_isIn V) 0 0 (q_X7_findKind_38 V) ls st z f E R
def q_X7_findKind_32 (V : Nat → Nat) (ls : Ls) (st : List Value) (z : Zz) (f : Fm) (E : Ej) (R : Kr) : Prop := xcall 2 14 Sp_J0_charAt_5068e 0 0 (q_X7_findKind_35 V) ls st z f E R
def q_X7_findKind_31 (V : Nat → Nat) (ls : Ls) (st : List Value) (z : Zz) (f : Fm) (E : Ej) (R : Kr) : Prop := xpush (.int (nI 0)) (q_X7_findKind_32 V) ls st z f E R
def q_X7_findKind_28 (V : Nat → Nat) (ls : Ls) (st : List Value) (z : Zz) (f : Fm) (E : Ej) (R : Kr) : Prop := xget 12 0 (q_X7_findKind_31 V) ls st z f E R
def q_X7_findKind_27 (V : Nat → Nat) (ls : Ls) (st : List Value) (z : Zz) (f : Fm) (E : Ej) (R : Kr) : Prop := xald 5 5 (q_X7_findKind_28 V) ls st z f E R
def q_X7_findKind_26 (V : Nat → Nat) (ls : Ls) (st : List Value) (z : Zz) (f : Fm) (E : Ej) (R : Kr) : Prop := xiload 1 (q_X7_findKind_27 V) ls st z f E R
def q_X7_findKind_23 (V : Nat → Nat) (ls : Ls) (st : List Value) (z : Zz) (f : Fm) (E : Ej) (R : Kr) : Prop := xpush (.ref (V 3)) (q_X7_findKind_26 V) ls st z f E R
def q_X7_findKind_20 (V : Nat → Nat) (ls : Ls) (st : List Value) (z : Zz) (f : Fm) (E : Ej) (R : Kr) : Prop := xcall 2 14 Sp_J0_charAt_5068e 0 0 (q_X7_findKind_23 V) ls st z f E R
def q_X7_findKind_19 (V : Nat → Nat) (ls : Ls) (st : List Value) (z : Zz) (f : Fm) (E : Ej) (R : Kr) : Prop := xpush (.int (nI 0)) (q_X7_findKind_20 V) ls st z f E R
def q_X7_findKind_16 (V : Nat → Nat) (ls : Ls) (st : List Value) (z : Zz) (f : Fm) (E : Ej) (R : Kr) : Prop := xget 12 0 (q_X7_findKind_19 V) ls st z f E R
def q_X7_findKind_15 (V : Nat → Nat) (ls : Ls) (st : List Value) (z : Zz) (f : Fm) (E : Ej) (R : Kr) : Prop := xald 5 5 (q_X7_findKind_16 V) ls st z f E R
def q_X7_findKind_14 (V : Nat → Nat) (ls : Ls) (st : List Value) (z : Zz) (f : Fm) (E : Ej) (R : Kr) : Prop := xiload 1 (q_X7_findKind_15 V) ls st z f E R
def q_X7_findKind_11 (V : Nat → Nat) (ls : Ls) (st : List Value) (z : Zz) (f : Fm) (E : Ej) (R : Kr) : Prop := xpush (.ref (V 3)) (q_X7_findKind_14 V) ls st z f E R
def q_X7_findKind_10 (V : Nat → Nat) (ls : Ls) (st : List Value) (z : Zz) (f : Fm) (E : Ej) (R : Kr) : Prop := xaload 0 (q_X7_findKind_11 V) ls st z f E R
def q_X7_findKind_7 (V : Nat → Nat) (ls : Ls) (st : List Value) (z : Zz) (f : Fm) (E : Ej) (R : Kr) : Prop := xicmp (fun x y => y ≤ x) (q_X7_findKind_58 V) (q_X7_findKind_10 V) ls st z f E R
def q_X7_findKind_6 (V : Nat → Nat) (ls : Ls) (st : List Value) (z : Zz) (f : Fm) (E : Ej) (R : Kr) : Prop := xalen (q_X7_findKind_7 V) ls st z f E R
def q_X7_findKind_3 (V : Nat → Nat) (ls : Ls) (st : List Value) (z : Zz) (f : Fm) (E : Ej) (R : Kr) : Prop := xpush (.ref (V 3)) (q_X7_findKind_6 V) ls st z f E R
def q_X7_findKind_2 (V : Nat → Nat) (ls : Ls) (st : List Value) (z : Zz) (f : Fm) (E : Ej) (R : Kr) : Prop := xiload 1 (q_X7_findKind_3 V) ls st z f E R
def q_X7_findKind_1 (V : Nat → Nat) (ls : Ls) (st : List Value) (z : Zz) (f : Fm) (E : Ej) (R : Kr) : Prop := xistore 1 (xs 2) ls st z f E R
def q_X7_findKind_0 (V : Nat → Nat) (ls : Ls) (st : List Value) (z : Zz) (f : Fm) (E : Ej) (R : Kr) : Prop := xpush (.int (nI 0)) (q_X7_findKind_1 V) ls st z f E R
set_option maxRecDepth 100000 in
theorem t_X7_findKind {s0 : State} {D : va_G} {ids : Nat → ClassId} {V : Nat → Nat} {l : Launch} {K : Kr} {E : Ej} (G : GG s0 D ids V) (X : EnX s0 D ids l RX7 cX7_findKind 2 (some .boolean) "findKind" rm_X7_findKind K E) : Sd E K 0 (q_X7_findKind_0 V) ∧ Sd E K 2 (q_X7_findKind_2 V) := by
  have h59 : Sd E K 59 (q_X7_findKind_59 V) := sd_ret X (by decide +kernel : decode cX7_findKind 59 = .ok (.ireturn, 1))
  have h58 : Sd E K 58 (q_X7_findKind_58 V) := sd_iconst X (by decide +kernel : decode cX7_findKind 58 = .ok (.iconst 0, 1)) (by decide +kernel) h59
  have h55 : Sd E K 55 (xs 2) := sd_goto X (by decide +kernel : decode cX7_findKind 55 = .ok (.goto (-53), 3)) (by decide) (sd_s 2)
  have h52 : Sd E K 52 (q_X7_findKind_52 V) := sd_iinc X (by decide +kernel : decode cX7_findKind 52 = .ok (.iinc 1 1, 3)) (by decide +kernel) h55
  have h51 : Sd E K 51 (q_X7_findKind_51 V) := sd_ret X (by decide +kernel : decode cX7_findKind 51 = .ok (.ireturn, 1))
  have h50 : Sd E K 50 (q_X7_findKind_50 V) := sd_iconst X (by decide +kernel : decode cX7_findKind 50 = .ok (.iconst 1, 1)) (by decide +kernel) h51
  have h47 : Sd E K 47 (q_X7_findKind_47 V) := sd_put X (by decide +kernel : decode cX7_findKind 47 = .ok (.putfield 28, 3)) ok_X7 (Nat.le_of_ble_eq_true rfl) rfl rfl wd_348 h50
  have h46 : Sd E K 46 (q_X7_findKind_46 V) := sd_aald X rfl (by decide +kernel : decode cX7_findKind 46 = .ok (.aaload, 1)) h47
  have h45 : Sd E K 45 (q_X7_findKind_45 V) := sd_iload_n X (by decide +kernel : decode cX7_findKind 45 = .ok (.iload_n 1, 1)) rfl h46
  have h42 : Sd E K 42 (q_X7_findKind_42 V) := sd_gst X G.z4 (by decide +kernel : decode cX7_findKind 42 = .ok (.getstatic 76, 3)) wd_607 h45
  have h41 : Sd E K 41 (q_X7_findKind_41 V) := sd_aload_n X (by decide +kernel : decode cX7_findKind 41 = .ok (.aload_n 0, 1)) rfl h42
  have h38 : Sd E K 38 (q_X7_findKind_38 V) := sd_if_eq X (by decide +kernel : decode cX7_findKind 38 = .ok (.ifCond .eq 14, 3)) (by decide) h52 h41
  have h35 : Sd E K 35 (q_X7_findKind_35 V) := sd_callV (n := 2) (ci := 6) X (ct_X7_isIn G) (by decide +kernel : decode cX7_findKind 35 = .ok (.invokevirtual 80, 3)) wd_651 wd_648 wd_650 wd_7 wd_34 (by decide +kernel) (Or.inl ⟨by decide, _, _, rfl⟩) ⟨Nat.le_of_ble_eq_true rfl, Nat.le_of_ble_eq_true rfl⟩ h38
  have h32 : Sd E K 32 (q_X7_findKind_32 V) := sd_callV (n := 1) (ci := 13) X (ct_J0_charAt_5068e G) (by decide +kernel : decode cX7_findKind 32 = .ok (.invokevirtual 69, 3)) wd_612 wd_609 wd_610 wd_611 wd_37 (by decide +kernel) (Or.inr ⟨by decide, _, rfl⟩) ⟨Nat.le_of_ble_eq_true rfl, Nat.le_of_ble_eq_true rfl⟩ h35
  have h31 : Sd E K 31 (q_X7_findKind_31 V) := sd_iconst X (by decide +kernel : decode cX7_findKind 31 = .ok (.iconst 0, 1)) (by decide +kernel) h32
  have h28 : Sd E K 28 (q_X7_findKind_28 V) := sd_getO X (by decide +kernel : decode cX7_findKind 28 = .ok (.getfield 62, 3)) (by decide) (r := _) (x := _) rfl rfl wd_1141 h31
  have h27 : Sd E K 27 (q_X7_findKind_27 V) := sd_aald X rfl (by decide +kernel : decode cX7_findKind 27 = .ok (.aaload, 1)) h28
  have h26 : Sd E K 26 (q_X7_findKind_26 V) := sd_iload_n X (by decide +kernel : decode cX7_findKind 26 = .ok (.iload_n 1, 1)) rfl h27
  have h23 : Sd E K 23 (q_X7_findKind_23 V) := sd_gst X G.z4 (by decide +kernel : decode cX7_findKind 23 = .ok (.getstatic 76, 3)) wd_607 h26
  have h20 : Sd E K 20 (q_X7_findKind_20 V) := sd_callV (n := 1) (ci := 13) X (ct_J0_charAt_5068e G) (by decide +kernel : decode cX7_findKind 20 = .ok (.invokevirtual 69, 3)) wd_612 wd_609 wd_610 wd_611 wd_37 (by decide +kernel) (Or.inr ⟨by decide, _, rfl⟩) ⟨Nat.le_of_ble_eq_true rfl, Nat.le_of_ble_eq_true rfl⟩ h23
  have h19 : Sd E K 19 (q_X7_findKind_19 V) := sd_iconst X (by decide +kernel : decode cX7_findKind 19 = .ok (.iconst 0, 1)) (by decide +kernel) h20
  have h16 : Sd E K 16 (q_X7_findKind_16 V) := sd_getO X (by decide +kernel : decode cX7_findKind 16 = .ok (.getfield 62, 3)) (by decide) (r := _) (x := _) rfl rfl wd_1141 h19
  have h15 : Sd E K 15 (q_X7_findKind_15 V) := sd_aald X rfl (by decide +kernel : decode cX7_findKind 15 = .ok (.aaload, 1)) h16
  have h14 : Sd E K 14 (q_X7_findKind_14 V) := sd_iload_n X (by decide +kernel : decode cX7_findKind 14 = .ok (.iload_n 1, 1)) rfl h15
  have h11 : Sd E K 11 (q_X7_findKind_11 V) := sd_gst X G.z4 (by decide +kernel : decode cX7_findKind 11 = .ok (.getstatic 76, 3)) wd_607 h14
  have h10 : Sd E K 10 (q_X7_findKind_10 V) := sd_aload_n X (by decide +kernel : decode cX7_findKind 10 = .ok (.aload_n 0, 1)) rfl h11
  have h7 : Sd E K 7 (q_X7_findKind_7 V) := sd_icmp_ge X (by decide +kernel : decode cX7_findKind 7 = .ok (.if_icmp .ge 51, 3)) (by decide) h58 h10
  have h6 : Sd E K 6 (q_X7_findKind_6 V) := sd_alen X (by decide +kernel : decode cX7_findKind 6 = .ok (.arraylength, 1)) h7
  have h3 : Sd E K 3 (q_X7_findKind_3 V) := sd_gst X G.z4 (by decide +kernel : decode cX7_findKind 3 = .ok (.getstatic 76, 3)) wd_607 h6
  have h2 : Sd E K 2 (q_X7_findKind_2 V) := sd_iload_n X (by decide +kernel : decode cX7_findKind 2 = .ok (.iload_n 1, 1)) rfl h3
  have h1 : Sd E K 1 (q_X7_findKind_1 V) := sd_istore_n X (by decide +kernel : decode cX7_findKind 1 = .ok (.istore_n 1, 1)) rfl (sd_s 2)
  have h0 : Sd E K 0 (q_X7_findKind_0 V) := sd_iconst X (by decide +kernel : decode cX7_findKind 0 = .ok (.iconst 0, 1)) (by decide +kernel) h1
  exact ⟨h0, h2⟩
set_option maxHeartbeats 4000000 in
set_option maxRecDepth 100000 in
theorem ct_X7_findKind {s0 : State} {D : va_G} {ids : Nat → ClassId} {V : Nat → Nat} {l : Launch} (G : GG s0 D ids V) : CT s0 D ids l yX7_findKind cX7_findKind 2 (some .boolean) rm_X7_findKind (Sp_X7_findKind V) := CT.of (by decide +kernel) G.k (by
  rintro as z f K E ⟨a, tb, v, w, z0, T, s, rfl, hX, hK⟩ X
  obtain ⟨t0, t2⟩ := t_X7_findKind G X
  refine ⟨Nat.le_of_ble_eq_true rfl, by simp [Value.category], t0 _ _ _ _ ?_⟩
  have hR := hX.1
  unfold isRr at hR
  obtain ⟨-, -, c3, -, -, c6, -⟩ := id hX.2.2.2.2.2.2.2
  simp (disch := omega) only [q_X7_findKind_0, q_X7_findKind_1, q_X7_findKind_2, q_X7_findKind_3, q_X7_findKind_6, q_X7_findKind_7, q_X7_findKind_10, q_X7_findKind_11, q_X7_findKind_14, q_X7_findKind_15, q_X7_findKind_16, q_X7_findKind_19, q_X7_findKind_20, q_X7_findKind_23, q_X7_findKind_26, q_X7_findKind_27, q_X7_findKind_28, q_X7_findKind_31, q_X7_findKind_32, q_X7_findKind_35, q_X7_findKind_38, q_X7_findKind_41, q_X7_findKind_42, q_X7_findKind_45, q_X7_findKind_46, q_X7_findKind_47, q_X7_findKind_50, q_X7_findKind_51, q_X7_findKind_52, q_X7_findKind_58, q_X7_findKind_59, xpush, xiload, xaload, xlload, xfload, xdload, lkill, xistore, xastore, xfstore, xlstore, xdstore, xiinc, xbin, xdiv, xun, xlbin, xi2l, xi2f, xi2d, xlcmp, xfcmp, xdcmp, xfdiv, xddiv, c1, xdup, xpop, xdup_x1, xdup2, xif, xicmp, xtab, xtabL, xget, xput, xald, xast, xalen, xnew, xnewa, c1s, recvOk, xcall, kont, xret, xlret, xfret, xdret, xaret, xvret, xs, xnewq, xastq, xcopy, xcopyF, xobj, xmax, xmin, xdead, xpushq, xmna, ls0, List.map_cons, List.map_nil, List.length_cons, List.length_nil, List.replicate, List.append_nil, List.cons_append, List.nil_append, List.getElem?_cons_zero, List.getElem?_cons_succ, List.getElem?_nil, List.set_cons_zero, List.set_cons_succ, List.take_succ_cons, List.take_zero, List.drop_succ_cons, List.drop_zero, List.reverse_cons, List.reverse_nil, List.sum_cons, List.sum_nil, Value.category, Option.toList_some, Option.toList_none, Nat.reduceAdd, Nat.reduceSub, Nat.reduceLT, Nat.reduceLeDiff, Nat.zero_add, Nat.le_refl, true_and, and_true, Nat.sub_zero, Nat.zero_lt_succ, Nat.zero_le, Nat.not_lt_zero, Nat.reduceEqDiff, Nat.one_ne_zero, nI_toInt, Int.reduceEq, Int.reduceAdd, Int.reduceLT, Int.reduceLE, Int.cast_ofNat_Int, reduceIte, or_false, false_or, eq_self, or_true, true_or, or_self, nI_clamp, vp_in_nI, nI_ltI, nI_leI, nI_eq, nI_add, nI_zero9, nI_nlt0, nI_le0, nI_lt0, arG, va_rf, not_false_eq_true, not_true_eq_false, false_implies, true_implies, implies_true, ne_eq, okv_int, okv_z0, okv_z1, okv_zN, okv_ref, okv_arr, okv_null, vn_z0, vn_z1, vn_zN, nr_int, nr_z, va_up_self, up_fr, rw1_j, rw1_up]
  have hr9 := fkD_lt (T := T) (p := s 0) 9
  generalize hr : fkD T (s 0) 9 = r9 at hK hr9
  refine dn (N := 9) (P := fun i => fkD T (s 0) (9 - i) = r9 → E 2 [some (.ref a), some (.int (nI i))] [] (z, 0, 0) f) ?_ ?_ 0 (by omega) hr
  · intro h9
    have h8 : (9 : Nat) = r9 := h9
    rw [if_pos h8.symm, if_pos h8.symm] at hK
    refine t2 _ _ _ _ ?_
    simp (disch := omega) only [q_X7_findKind_0, q_X7_findKind_1, q_X7_findKind_2, q_X7_findKind_3, q_X7_findKind_6, q_X7_findKind_7, q_X7_findKind_10, q_X7_findKind_11, q_X7_findKind_14, q_X7_findKind_15, q_X7_findKind_16, q_X7_findKind_19, q_X7_findKind_20, q_X7_findKind_23, q_X7_findKind_26, q_X7_findKind_27, q_X7_findKind_28, q_X7_findKind_31, q_X7_findKind_32, q_X7_findKind_35, q_X7_findKind_38, q_X7_findKind_41, q_X7_findKind_42, q_X7_findKind_45, q_X7_findKind_46, q_X7_findKind_47, q_X7_findKind_50, q_X7_findKind_51, q_X7_findKind_52, q_X7_findKind_58, q_X7_findKind_59, xpush, xiload, xaload, xlload, xfload, xdload, lkill, xistore, xastore, xfstore, xlstore, xdstore, xiinc, xbin, xdiv, xun, xlbin, xi2l, xi2f, xi2d, xlcmp, xfcmp, xdcmp, xfdiv, xddiv, c1, xdup, xpop, xdup_x1, xdup2, xif, xicmp, xtab, xtabL, xget, xput, xald, xast, xalen, xnew, xnewa, c1s, recvOk, xcall, kont, xret, xlret, xfret, xdret, xaret, xvret, xs, xnewq, xastq, xcopy, xcopyF, xobj, xmax, xmin, xdead, xpushq, xmna, ls0, List.map_cons, List.map_nil, List.length_cons, List.length_nil, List.replicate, List.append_nil, List.cons_append, List.nil_append, List.getElem?_cons_zero, List.getElem?_cons_succ, List.getElem?_nil, List.set_cons_zero, List.set_cons_succ, List.take_succ_cons, List.take_zero, List.drop_succ_cons, List.drop_zero, List.reverse_cons, List.reverse_nil, List.sum_cons, List.sum_nil, Value.category, Option.toList_some, Option.toList_none, Nat.reduceAdd, Nat.reduceSub, Nat.reduceLT, Nat.reduceLeDiff, Nat.zero_add, Nat.le_refl, true_and, and_true, Nat.sub_zero, Nat.zero_lt_succ, Nat.zero_le, Nat.not_lt_zero, Nat.reduceEqDiff, Nat.one_ne_zero, nI_toInt, Int.reduceEq, Int.reduceAdd, Int.reduceLT, Int.reduceLE, Int.cast_ofNat_Int, reduceIte, or_false, false_or, eq_self, or_true, true_or, or_self, nI_clamp, vp_in_nI, nI_ltI, nI_leI, nI_eq, nI_add, nI_zero9, nI_nlt0, nI_le0, nI_lt0, arG, va_rf, not_false_eq_true, not_true_eq_false, false_implies, true_implies, implies_true, ne_eq, okv_int, okv_z0, okv_z1, okv_zN, okv_ref, okv_arr, okv_null, vn_z0, vn_z1, vn_zN, nr_int, nr_z, va_up_self, up_fr, rw1_j, rw1_up, c3]
    exact hK f hX.1 (fun q hq => rfl)
  · intro i hi ih h9
    obtain ⟨d1, d2⟩ := c6 i hi
    have hF := hX.2.2.2.2.2.2.2.form hi
    have hF0 := formL_ok i hi
    have hF1 := hF0.2.2 0
    refine t2 _ _ _ _ ?_
    simp (disch := omega) only [q_X7_findKind_0, q_X7_findKind_1, q_X7_findKind_2, q_X7_findKind_3, q_X7_findKind_6, q_X7_findKind_7, q_X7_findKind_10, q_X7_findKind_11, q_X7_findKind_14, q_X7_findKind_15, q_X7_findKind_16, q_X7_findKind_19, q_X7_findKind_20, q_X7_findKind_23, q_X7_findKind_26, q_X7_findKind_27, q_X7_findKind_28, q_X7_findKind_31, q_X7_findKind_32, q_X7_findKind_35, q_X7_findKind_38, q_X7_findKind_41, q_X7_findKind_42, q_X7_findKind_45, q_X7_findKind_46, q_X7_findKind_47, q_X7_findKind_50, q_X7_findKind_51, q_X7_findKind_52, q_X7_findKind_58, q_X7_findKind_59, xpush, xiload, xaload, xlload, xfload, xdload, lkill, xistore, xastore, xfstore, xlstore, xdstore, xiinc, xbin, xdiv, xun, xlbin, xi2l, xi2f, xi2d, xlcmp, xfcmp, xdcmp, xfdiv, xddiv, c1, xdup, xpop, xdup_x1, xdup2, xif, xicmp, xtab, xtabL, xget, xput, xald, xast, xalen, xnew, xnewa, c1s, recvOk, xcall, kont, xret, xlret, xfret, xdret, xaret, xvret, xs, xnewq, xastq, xcopy, xcopyF, xobj, xmax, xmin, xdead, xpushq, xmna, ls0, List.map_cons, List.map_nil, List.length_cons, List.length_nil, List.replicate, List.append_nil, List.cons_append, List.nil_append, List.getElem?_cons_zero, List.getElem?_cons_succ, List.getElem?_nil, List.set_cons_zero, List.set_cons_succ, List.take_succ_cons, List.take_zero, List.drop_succ_cons, List.drop_zero, List.reverse_cons, List.reverse_nil, List.sum_cons, List.sum_nil, Value.category, Option.toList_some, Option.toList_none, Nat.reduceAdd, Nat.reduceSub, Nat.reduceLT, Nat.reduceLeDiff, Nat.zero_add, Nat.le_refl, true_and, and_true, Nat.sub_zero, Nat.zero_lt_succ, Nat.zero_le, Nat.not_lt_zero, Nat.reduceEqDiff, Nat.one_ne_zero, nI_toInt, Int.reduceEq, Int.reduceAdd, Int.reduceLT, Int.reduceLE, Int.cast_ofNat_Int, reduceIte, or_false, false_or, eq_self, or_true, true_or, or_self, nI_clamp, vp_in_nI, nI_ltI, nI_leI, nI_eq, nI_add, nI_zero9, nI_nlt0, nI_le0, nI_lt0, arG, va_rf, not_false_eq_true, not_true_eq_false, false_implies, true_implies, implies_true, ne_eq, okv_int, okv_z0, okv_z1, okv_zN, okv_ref, okv_arr, okv_null, vn_z0, vn_z1, vn_zN, nr_int, nr_z, va_up_self, up_fr, rw1_j, rw1_up, c3, Nat.not_le.mpr hi, hi, d1, d2.1, hR]
    refine ⟨_, 0, _, rfl, hF0.1, hF, ?_⟩
    simp (disch := omega) only [q_X7_findKind_0, q_X7_findKind_1, q_X7_findKind_2, q_X7_findKind_3, q_X7_findKind_6, q_X7_findKind_7, q_X7_findKind_10, q_X7_findKind_11, q_X7_findKind_14, q_X7_findKind_15, q_X7_findKind_16, q_X7_findKind_19, q_X7_findKind_20, q_X7_findKind_23, q_X7_findKind_26, q_X7_findKind_27, q_X7_findKind_28, q_X7_findKind_31, q_X7_findKind_32, q_X7_findKind_35, q_X7_findKind_38, q_X7_findKind_41, q_X7_findKind_42, q_X7_findKind_45, q_X7_findKind_46, q_X7_findKind_47, q_X7_findKind_50, q_X7_findKind_51, q_X7_findKind_52, q_X7_findKind_58, q_X7_findKind_59, xpush, xiload, xaload, xlload, xfload, xdload, lkill, xistore, xastore, xfstore, xlstore, xdstore, xiinc, xbin, xdiv, xun, xlbin, xi2l, xi2f, xi2d, xlcmp, xfcmp, xdcmp, xfdiv, xddiv, c1, xdup, xpop, xdup_x1, xdup2, xif, xicmp, xtab, xtabL, xget, xput, xald, xast, xalen, xnew, xnewa, c1s, recvOk, xcall, kont, xret, xlret, xfret, xdret, xaret, xvret, xs, xnewq, xastq, xcopy, xcopyF, xobj, xmax, xmin, xdead, xpushq, xmna, ls0, List.map_cons, List.map_nil, List.length_cons, List.length_nil, List.replicate, List.append_nil, List.cons_append, List.nil_append, List.getElem?_cons_zero, List.getElem?_cons_succ, List.getElem?_nil, List.set_cons_zero, List.set_cons_succ, List.take_succ_cons, List.take_zero, List.drop_succ_cons, List.drop_zero, List.reverse_cons, List.reverse_nil, List.sum_cons, List.sum_nil, Value.category, Option.toList_some, Option.toList_none, Nat.reduceAdd, Nat.reduceSub, Nat.reduceLT, Nat.reduceLeDiff, Nat.zero_add, Nat.le_refl, true_and, and_true, Nat.sub_zero, Nat.zero_lt_succ, Nat.zero_le, Nat.not_lt_zero, Nat.reduceEqDiff, Nat.one_ne_zero, nI_toInt, Int.reduceEq, Int.reduceAdd, Int.reduceLT, Int.reduceLE, Int.cast_ofNat_Int, reduceIte, or_false, false_or, eq_self, or_true, true_or, or_self, nI_clamp, vp_in_nI, nI_ltI, nI_leI, nI_eq, nI_add, nI_zero9, nI_nlt0, nI_le0, nI_lt0, arG, va_rf, not_false_eq_true, not_true_eq_false, false_implies, true_implies, implies_true, ne_eq, okv_int, okv_z0, okv_z1, okv_zN, okv_ref, okv_arr, okv_null, vn_z0, vn_z1, vn_zN, nr_int, nr_z, va_up_self, up_fr, rw1_j, rw1_up, c3, Nat.not_le.mpr hi, hi, d1, d2.1, hR]
    refine ⟨_, 0, _, rfl, hF0.1, hF, ?_⟩
    simp (disch := omega) only [q_X7_findKind_0, q_X7_findKind_1, q_X7_findKind_2, q_X7_findKind_3, q_X7_findKind_6, q_X7_findKind_7, q_X7_findKind_10, q_X7_findKind_11, q_X7_findKind_14, q_X7_findKind_15, q_X7_findKind_16, q_X7_findKind_19, q_X7_findKind_20, q_X7_findKind_23, q_X7_findKind_26, q_X7_findKind_27, q_X7_findKind_28, q_X7_findKind_31, q_X7_findKind_32, q_X7_findKind_35, q_X7_findKind_38, q_X7_findKind_41, q_X7_findKind_42, q_X7_findKind_45, q_X7_findKind_46, q_X7_findKind_47, q_X7_findKind_50, q_X7_findKind_51, q_X7_findKind_52, q_X7_findKind_58, q_X7_findKind_59, xpush, xiload, xaload, xlload, xfload, xdload, lkill, xistore, xastore, xfstore, xlstore, xdstore, xiinc, xbin, xdiv, xun, xlbin, xi2l, xi2f, xi2d, xlcmp, xfcmp, xdcmp, xfdiv, xddiv, c1, xdup, xpop, xdup_x1, xdup2, xif, xicmp, xtab, xtabL, xget, xput, xald, xast, xalen, xnew, xnewa, c1s, recvOk, xcall, kont, xret, xlret, xfret, xdret, xaret, xvret, xs, xnewq, xastq, xcopy, xcopyF, xobj, xmax, xmin, xdead, xpushq, xmna, ls0, List.map_cons, List.map_nil, List.length_cons, List.length_nil, List.replicate, List.append_nil, List.cons_append, List.nil_append, List.getElem?_cons_zero, List.getElem?_cons_succ, List.getElem?_nil, List.set_cons_zero, List.set_cons_succ, List.take_succ_cons, List.take_zero, List.drop_succ_cons, List.drop_zero, List.reverse_cons, List.reverse_nil, List.sum_cons, List.sum_nil, Value.category, Option.toList_some, Option.toList_none, Nat.reduceAdd, Nat.reduceSub, Nat.reduceLT, Nat.reduceLeDiff, Nat.zero_add, Nat.le_refl, true_and, and_true, Nat.sub_zero, Nat.zero_lt_succ, Nat.zero_le, Nat.not_lt_zero, Nat.reduceEqDiff, Nat.one_ne_zero, nI_toInt, Int.reduceEq, Int.reduceAdd, Int.reduceLT, Int.reduceLE, Int.cast_ofNat_Int, reduceIte, or_false, false_or, eq_self, or_true, true_or, or_self, nI_clamp, vp_in_nI, nI_ltI, nI_leI, nI_eq, nI_add, nI_zero9, nI_nlt0, nI_le0, nI_lt0, arG, va_rf, not_false_eq_true, not_true_eq_false, false_implies, true_implies, implies_true, ne_eq, okv_int, okv_z0, okv_z1, okv_zN, okv_ref, okv_arr, okv_null, vn_z0, vn_z1, vn_zN, nr_int, nr_z, va_up_self, up_fr, rw1_j, rw1_up, hR]
    refine ⟨a, tb, v, w, z0, _, _, T, s, rfl, by omega, by omega, hX, ?_⟩
    have e9 : 9 - i = (8 - i) + 1 := by omega
    have e8 : 8 - (8 - i) = i := by omega
    rw [e9] at h9
    unfold fkD at h9
    rw [e8] at h9
    by_cases q : inN T (s 0) ((formL i).getD 0 0) ((formL i).getD 0 0)
    · rw [if_pos q] at h9 ⊢
      rw [← h9, if_neg (by omega), if_neg (by omega)] at hK
      simp (disch := omega) only [q_X7_findKind_0, q_X7_findKind_1, q_X7_findKind_2, q_X7_findKind_3, q_X7_findKind_6, q_X7_findKind_7, q_X7_findKind_10, q_X7_findKind_11, q_X7_findKind_14, q_X7_findKind_15, q_X7_findKind_16, q_X7_findKind_19, q_X7_findKind_20, q_X7_findKind_23, q_X7_findKind_26, q_X7_findKind_27, q_X7_findKind_28, q_X7_findKind_31, q_X7_findKind_32, q_X7_findKind_35, q_X7_findKind_38, q_X7_findKind_41, q_X7_findKind_42, q_X7_findKind_45, q_X7_findKind_46, q_X7_findKind_47, q_X7_findKind_50, q_X7_findKind_51, q_X7_findKind_52, q_X7_findKind_58, q_X7_findKind_59, xpush, xiload, xaload, xlload, xfload, xdload, lkill, xistore, xastore, xfstore, xlstore, xdstore, xiinc, xbin, xdiv, xun, xlbin, xi2l, xi2f, xi2d, xlcmp, xfcmp, xdcmp, xfdiv, xddiv, c1, xdup, xpop, xdup_x1, xdup2, xif, xicmp, xtab, xtabL, xget, xput, xald, xast, xalen, xnew, xnewa, c1s, recvOk, xcall, kont, xret, xlret, xfret, xdret, xaret, xvret, xs, xnewq, xastq, xcopy, xcopyF, xobj, xmax, xmin, xdead, xpushq, xmna, ls0, List.map_cons, List.map_nil, List.length_cons, List.length_nil, List.replicate, List.append_nil, List.cons_append, List.nil_append, List.getElem?_cons_zero, List.getElem?_cons_succ, List.getElem?_nil, List.set_cons_zero, List.set_cons_succ, List.take_succ_cons, List.take_zero, List.drop_succ_cons, List.drop_zero, List.reverse_cons, List.reverse_nil, List.sum_cons, List.sum_nil, Value.category, Option.toList_some, Option.toList_none, Nat.reduceAdd, Nat.reduceSub, Nat.reduceLT, Nat.reduceLeDiff, Nat.zero_add, Nat.le_refl, true_and, and_true, Nat.sub_zero, Nat.zero_lt_succ, Nat.zero_le, Nat.not_lt_zero, Nat.reduceEqDiff, Nat.one_ne_zero, nI_toInt, Int.reduceEq, Int.reduceAdd, Int.reduceLT, Int.reduceLE, Int.cast_ofNat_Int, reduceIte, or_false, false_or, eq_self, or_true, true_or, or_self, nI_clamp, vp_in_nI, nI_ltI, nI_leI, nI_eq, nI_add, nI_zero9, nI_nlt0, nI_le0, nI_lt0, arG, va_rf, not_false_eq_true, not_true_eq_false, false_implies, true_implies, implies_true, ne_eq, okv_int, okv_z0, okv_z1, okv_zN, okv_ref, okv_arr, okv_null, vn_z0, vn_z1, vn_zN, nr_int, nr_z, va_up_self, up_fr, rw1_j, rw1_up, c3, hi, hR]
      exact hK _ (va_up_self _ _ _) (fun q hq => by simp only [up_fr hq])
    · rw [if_neg q] at h9 ⊢
      simp (disch := omega) only [q_X7_findKind_0, q_X7_findKind_1, q_X7_findKind_2, q_X7_findKind_3, q_X7_findKind_6, q_X7_findKind_7, q_X7_findKind_10, q_X7_findKind_11, q_X7_findKind_14, q_X7_findKind_15, q_X7_findKind_16, q_X7_findKind_19, q_X7_findKind_20, q_X7_findKind_23, q_X7_findKind_26, q_X7_findKind_27, q_X7_findKind_28, q_X7_findKind_31, q_X7_findKind_32, q_X7_findKind_35, q_X7_findKind_38, q_X7_findKind_41, q_X7_findKind_42, q_X7_findKind_45, q_X7_findKind_46, q_X7_findKind_47, q_X7_findKind_50, q_X7_findKind_51, q_X7_findKind_52, q_X7_findKind_58, q_X7_findKind_59, xpush, xiload, xaload, xlload, xfload, xdload, lkill, xistore, xastore, xfstore, xlstore, xdstore, xiinc, xbin, xdiv, xun, xlbin, xi2l, xi2f, xi2d, xlcmp, xfcmp, xdcmp, xfdiv, xddiv, c1, xdup, xpop, xdup_x1, xdup2, xif, xicmp, xtab, xtabL, xget, xput, xald, xast, xalen, xnew, xnewa, c1s, recvOk, xcall, kont, xret, xlret, xfret, xdret, xaret, xvret, xs, xnewq, xastq, xcopy, xcopyF, xobj, xmax, xmin, xdead, xpushq, xmna, ls0, List.map_cons, List.map_nil, List.length_cons, List.length_nil, List.replicate, List.append_nil, List.cons_append, List.nil_append, List.getElem?_cons_zero, List.getElem?_cons_succ, List.getElem?_nil, List.set_cons_zero, List.set_cons_succ, List.take_succ_cons, List.take_zero, List.drop_succ_cons, List.drop_zero, List.reverse_cons, List.reverse_nil, List.sum_cons, List.sum_nil, Value.category, Option.toList_some, Option.toList_none, Nat.reduceAdd, Nat.reduceSub, Nat.reduceLT, Nat.reduceLeDiff, Nat.zero_add, Nat.le_refl, true_and, and_true, Nat.sub_zero, Nat.zero_lt_succ, Nat.zero_le, Nat.not_lt_zero, Nat.reduceEqDiff, Nat.one_ne_zero, nI_toInt, Int.reduceEq, Int.reduceAdd, Int.reduceLT, Int.reduceLE, Int.cast_ofNat_Int, reduceIte, or_false, false_or, eq_self, or_true, true_or, or_self, nI_clamp, vp_in_nI, nI_ltI, nI_leI, nI_eq, nI_add, nI_zero9, nI_nlt0, nI_le0, nI_lt0, arG, va_rf, not_false_eq_true, not_true_eq_false, false_implies, true_implies, implies_true, ne_eq, okv_int, okv_z0, okv_z1, okv_zN, okv_ref, okv_arr, okv_null, vn_z0, vn_z1, vn_zN, nr_int, nr_z, va_up_self, up_fr, rw1_j, rw1_up, c3]
      exact ih (by rw [show 9 - (i + 1) = 8 - i by omega]; exact h9))
