/-! the model: a country is M tag row column; what the heap shows of it -/
theorem nI_zero9 : (0 : Int32) = nI 0 := rfl
theorem nI_nlt0 {n : Nat} (h : n < 2147483648) : (nI n < nI 0) = False := by
  rw [eq_iff_iff, nI_ltI h (by omega)]
  exact ⟨fun q => by omega, False.elim⟩
theorem nI_lt0 {n : Nat} (h : n < 2147483648) : (nI 0 < nI n) = (0 < n) := by rw [eq_iff_iff, nI_ltI (by omega) h]
theorem nI_le0 {n : Nat} (h : n < 2147483648) : (nI 0 ≤ nI n) = True := by
  rw [eq_iff_iff, nI_leI (by omega) h]
  exact ⟨fun _ => trivial, fun _ => by omega⟩
theorem okv_int (x : Int32) : okv .int (.int x) = True := eq_true ⟨rfl, rfl⟩
theorem okv_z0 : okv .boolean (.int (nI 0)) = True := eq_true ⟨rfl, rfl⟩
theorem okv_z1 : okv .boolean (.int (nI 1)) = True := eq_true ⟨rfl, rfl⟩
theorem okv_zN {n : Nat} (h : n < 2) : okv .boolean (.int (nI n)) = True := by
  rcases (show n = 0 ∨ n = 1 by omega) with rfl | rfl
  · exact okv_z0
  · exact okv_z1
theorem okv_ref (C : String) (a : Nat) : okv (.object C) (.ref a) = True := eq_true ⟨rfl, rfl⟩
theorem okv_null (C : String) : okv (.object C) .null = True := eq_true ⟨rfl, rfl⟩
theorem okv_arr (t : FieldType) (a : Nat) : okv (.array t) (.ref a) = True := eq_true ⟨rfl, rfl⟩
theorem vn_int (x : Int32) : vp_nar (tyA 1) x = x := by
  show (match narrow .int (.int x) with | .int y => y | _ => 0) = x
  rw [vp_nar_int]
theorem vn_z0 : vp_nar (tyA 2) (nI 0) = nI 0 := by decide +kernel
theorem vn_z1 : vp_nar (tyA 2) (nI 1) = nI 1 := by decide +kernel
theorem vn_zN {n : Nat} (h : n < 2) : vp_nar (tyA 2) (nI n) = nI n := by
  rcases (show n = 0 ∨ n = 1 by omega) with rfl | rfl
  · exact vn_z0
  · exact vn_z1
theorem nr_int (x : Int32) : (narrow .int (.int x) = .int x) = True := eq_true rfl
theorem nr_z {n : Nat} (h : n < 2) : (narrow .boolean (.int (nI n)) = .int (nI n)) = True := by
  rcases (show n = 0 ∨ n = 1 by omega) with rfl | rfl <;> exact eq_true (by decide +kernel)
abbrev Cm : Type := Nat → Nat → Nat → Nat
def hup (h : Nat → Nat) (j v : Nat) : Nat → Nat := fun j' => if j' = j then v else h j'
def gup (g : Nat → Nat → Nat) (r j v : Nat) : Nat → Nat → Nat := fun r' => if r' = r then hup (g r) j v else g r'
def mup (M : Cm) (t r j v : Nat) : Cm := fun t' => if t' = t then gup (M t) r j v else M t'
theorem hup_eq {h : Nat → Nat} {j v : Nat} : hup h j v j = v := if_pos rfl
theorem hup_ne {h : Nat → Nat} {j v j' : Nat} (q : j' ≠ j) : hup h j v j' = h j' := if_neg q
theorem gup_eq {g : Nat → Nat → Nat} {r j v : Nat} : gup g r j v r = hup (g r) j v := if_pos rfl
theorem gup_ne {g : Nat → Nat → Nat} {r j v r' : Nat} (q : r' ≠ r) : gup g r j v r' = g r' := if_neg q
theorem mup_eq {M : Cm} {t r j v : Nat} : mup M t r j v t = gup (M t) r j v := if_pos rfl
theorem mup_ne {M : Cm} {t r j v t' : Nat} (h : t' ≠ t) : mup M t r j v t' = M t' := if_neg h
theorem mup_at {M : Cm} {t r j v t' r' j' : Nat} : mup M t r j v t' r' j' = if t' = t ∧ r' = r ∧ j' = j then v else M t' r' j' := by
  by_cases h1 : t' = t
  · subst h1
    rw [mup_eq]
    by_cases h2 : r' = r
    · subst h2
      rw [gup_eq]
      by_cases h3 : j' = j
      · subst h3
        rw [hup_eq, if_pos ⟨rfl, rfl, rfl⟩]
      · rw [hup_ne h3, if_neg (fun q => h3 q.2.2)]
    · rw [gup_ne h2, if_neg (fun q => h2 q.2.1)]
  · rw [mup_ne h1, if_neg (fun q => h1 q.1)]
def rw1 (h : Nat → Nat) : Nat → Int32 := fun j => nI (h j)
theorem rw1_j (h : Nat → Nat) (j : Nat) : rw1 h j = nI (h j) := rfl
theorem rw1_up (h : Nat → Nat) (j v : Nat) : upd (rw1 h) j (nI v) = rw1 (hup h j v) := by
  funext q
  unfold rw1 upd hup
  by_cases e : q = j
  · rw [if_pos e, if_pos e]
  · rw [if_neg e, if_neg e]
/-- a row of ints, of booleans -/
def isI (f : Fm) (a n : Nat) (h : Nat → Nat) : Prop := f a = some (.inl (1, n, .inl (rw1 h)))
def isZ (f : Fm) (a n : Nat) (h : Nat → Nat) : Prop := f a = some (.inl (2, n, .inl (rw1 h)))
/-- an 8 by 8 grid: the outer array at a, its rows behind it -/
def isGr (f : Fm) (a : Nat) (g : Nat → Nat → Nat) : Prop := f a = some (.inl (4, 8, .inr (fun i => if i < 8 then some (a + 1 + i) else none))) ∧ ∀ i, i < 8 → f (a + 1 + i) = some (.inl (1, 8, .inl (rw1 (g i))))
def isRd (f : Fm) (a : Nat) (M : Cm) : Prop := f a = some (.inr (7, [.ref (a + 1), .int (nI (M 11 0 0))])) ∧ isGr f (a + 1) (M 1)
def isRt (f : Fm) (a : Nat) (M : Cm) : Prop := f a = some (.inr (8, [.ref (a + 1), .ref (a + 10), .ref (a + 19), .ref (a + 28)])) ∧ isGr f (a + 1) (M 2) ∧ isGr f (a + 10) (M 3) ∧ isGr f (a + 19) (M 4) ∧ isGr f (a + 28) (M 5)
def isLt (f : Fm) (a : Nat) (M : Cm) : Prop := f a = some (.inr (4, [.ref (a + 1), .ref (a + 2), .ref (a + 3), .ref (a + 4), .ref (a + 5), .int (nI (M 11 0 1))])) ∧ f (a + 1) = some (.inl (1, 10, .inl (rw1 (M 6 0)))) ∧ f (a + 2) = some (.inl (1, 10, .inl (rw1 (M 7 0)))) ∧ f (a + 3) = some (.inl (1, 10, .inl (rw1 (M 8 0)))) ∧ f (a + 4) = some (.inl (1, 10, .inl (rw1 (M 9 0)))) ∧ f (a + 5) = some (.inl (1, 10, .inl (rw1 (M 10 0))))
def isCo (f : Fm) (c : Nat) (M : Cm) : Prop := f c = some (.inr (1, [.ref (c + 1), .ref (c + 2), .ref (c + 12), .ref (c + 49), .int (nI (M 11 0 2)), .int (nI (M 11 0 3)), .int (nI (M 11 0 4)), .int (nI (M 11 0 5)), .int (nI (M 11 0 6)), .int (nI (M 11 0 7))])) ∧ f (c + 1) = some (.inl (2, 8, .inl (rw1 (M 0 0)))) ∧ isRd f (c + 2) M ∧ isRt f (c + 12) M ∧ isLt f (c + 49) M
/-- all but the three counters is small, and who is silent is 0 or 1 -/
def sm (M : Cm) : Prop := (∀ t r j, t < 11 → M t r j < 1048576) ∧ (∀ j, j < 5 → M 11 0 j < 1048576) ∧ ∀ r j, M 0 r j < 2
theorem sm.s {M : Cm} (h : sm M) (j : Nat) (hj : j < 5) : M 11 0 j < 1048576 := h.2.1 j hj
theorem up_fr {f : Fm} {x q : Nat} {c : Option Ce} (h : q ≠ x) : va_up f x c q = f q := va_up_ne _ _ h
theorem isGr.fr {f f' : Fm} {a : Nat} {g : Nat → Nat → Nat} (h : isGr f a g) (hq : ∀ q, a ≤ q → q < a + 9 → f' q = f q) : isGr f' a g := ⟨by rw [hq a (by omega) (by omega)]; exact h.1, fun i hi => by rw [hq (a + 1 + i) (by omega) (by omega)]; exact h.2 i hi⟩
theorem isGr.up {f : Fm} {a x : Nat} {c : Option Ce} {g : Nat → Nat → Nat} (h : isGr f a g) (hx : x < a ∨ a + 9 ≤ x) : isGr (va_up f x c) a g := h.fr (fun q h1 h2 => up_fr (by omega))
theorem isGr.set {f : Fm} {a i j v : Nat} {g : Nat → Nat → Nat} (h : isGr f a g) (hi : i < 8) : isGr (va_up f (a + 1 + i) (some (.inl (1, 8, .inl (rw1 (hup (g i) j v)))))) a (gup g i j v) := ⟨by rw [up_fr (by omega)]; exact h.1, fun r hr => by
  by_cases q : r = i
  · subst q
    rw [va_up_self, gup_eq]
  · rw [up_fr (by omega), gup_ne q]
    exact h.2 r hr⟩
theorem isRt.fr {f f' : Fm} {a : Nat} {M : Cm} (h : isRt f a M) (hq : ∀ q, a ≤ q → q < a + 37 → f' q = f q) : isRt f' a M := ⟨by rw [hq a (by omega) (by omega)]; exact h.1, h.2.1.fr (fun q h1 h2 => hq q (by omega) (by omega)), h.2.2.1.fr (fun q h1 h2 => hq q (by omega) (by omega)), h.2.2.2.1.fr (fun q h1 h2 => hq q (by omega) (by omega)), h.2.2.2.2.fr (fun q h1 h2 => hq q (by omega) (by omega))⟩
theorem isRt.eqv {f : Fm} {a : Nat} {M M' : Cm} (h : isRt f a M) (h2 : M' 2 = M 2) (h3 : M' 3 = M 3) (h4 : M' 4 = M 4) (h5 : M' 5 = M 5) : isRt f a M' := ⟨h.1, h2 ▸ h.2.1, h3 ▸ h.2.2.1, h4 ▸ h.2.2.2.1, h5 ▸ h.2.2.2.2⟩
theorem isRt.set2 {f : Fm} {a i j v : Nat} {M : Cm} (h : isRt f a M) (hi : i < 8) : isRt (va_up f (a + 1 + 1 + i) (some (.inl (1, 8, .inl (rw1 (hup (M 2 i) j v)))))) a (mup M 2 i j v) := ⟨by rw [up_fr (by omega)]; exact h.1, h.2.1.set hi, h.2.2.1.up (by omega), h.2.2.2.1.up (by omega), h.2.2.2.2.up (by omega)⟩
theorem isRt.set3 {f : Fm} {a i j v : Nat} {M : Cm} (h : isRt f a M) (hi : i < 8) : isRt (va_up f (a + 10 + 1 + i) (some (.inl (1, 8, .inl (rw1 (hup (M 3 i) j v)))))) a (mup M 3 i j v) := ⟨by rw [up_fr (by omega)]; exact h.1, h.2.1.up (by omega), h.2.2.1.set hi, h.2.2.2.1.up (by omega), h.2.2.2.2.up (by omega)⟩
theorem isRt.set4 {f : Fm} {a i j v : Nat} {M : Cm} (h : isRt f a M) (hi : i < 8) : isRt (va_up f (a + 19 + 1 + i) (some (.inl (1, 8, .inl (rw1 (hup (M 4 i) j v)))))) a (mup M 4 i j v) := ⟨by rw [up_fr (by omega)]; exact h.1, h.2.1.up (by omega), h.2.2.1.up (by omega), h.2.2.2.1.set hi, h.2.2.2.2.up (by omega)⟩
theorem isRt.set5 {f : Fm} {a i j v : Nat} {M : Cm} (h : isRt f a M) (hi : i < 8) : isRt (va_up f (a + 28 + 1 + i) (some (.inl (1, 8, .inl (rw1 (hup (M 5 i) j v)))))) a (mup M 5 i j v) := ⟨by rw [up_fr (by omega)]; exact h.1, h.2.1.up (by omega), h.2.2.1.up (by omega), h.2.2.2.1.up (by omega), h.2.2.2.2.set hi⟩
theorem isRd.fr {f f' : Fm} {a : Nat} {M : Cm} (h : isRd f a M) (hq : ∀ q, a ≤ q → q < a + 10 → f' q = f q) : isRd f' a M := ⟨by rw [hq a (by omega) (by omega)]; exact h.1, h.2.fr (fun q h1 h2 => hq q (by omega) (by omega))⟩
theorem isRd.eqv {f : Fm} {a : Nat} {M M' : Cm} (h : isRd f a M) (h1 : M' 1 = M 1) (h2 : M' 11 0 0 = M 11 0 0) : isRd f a M' := ⟨by rw [h2]; exact h.1, h1 ▸ h.2⟩
theorem isLt.fr {f f' : Fm} {a : Nat} {M : Cm} (h : isLt f a M) (hq : ∀ q, a ≤ q → q < a + 6 → f' q = f q) : isLt f' a M := by
  unfold isLt
  rw [hq a (by omega) (by omega), hq (a + 1) (by omega) (by omega), hq (a + 2) (by omega) (by omega), hq (a + 3) (by omega) (by omega), hq (a + 4) (by omega) (by omega), hq (a + 5) (by omega) (by omega)]
  exact h
theorem isLt.eqv {f : Fm} {a : Nat} {M M' : Cm} (h : isLt f a M) (h1 : ∀ k, 6 ≤ k → k < 11 → M' k = M k) (h2 : M' 11 0 1 = M 11 0 1) : isLt f a M' := by
  unfold isLt
  rw [h2, h1 6 (by omega) (by omega), h1 7 (by omega) (by omega), h1 8 (by omega) (by omega), h1 9 (by omega) (by omega), h1 10 (by omega) (by omega)]
  exact h
theorem isCo.fr {f f' : Fm} {a : Nat} {M : Cm} (h : isCo f a M) (hq : ∀ q, a ≤ q → q < a + 55 → f' q = f q) : isCo f' a M := ⟨by rw [hq a (by omega) (by omega)]; exact h.1, by rw [hq (a + 1) (by omega) (by omega)]; exact h.2.1, h.2.2.1.fr (fun q h1 h2 => hq q (by omega) (by omega)), h.2.2.2.1.fr (fun q h1 h2 => hq q (by omega) (by omega)), h.2.2.2.2.fr (fun q h1 h2 => hq q (by omega) (by omega))⟩
/-- how many below n -/
def cntN (p : Nat → Prop) [DecidablePred p] : Nat → Nat
  | 0 => 0
  | n + 1 => cntN p n + (if p n then 1 else 0)
theorem cntN_le (p : Nat → Prop) [DecidablePred p] : ∀ n, cntN p n ≤ n
  | 0 => Nat.le_refl 0
  | n + 1 => by
    have := cntN_le p n
    unfold cntN
    split <;> omega
def sumN (g : Nat → Nat) : Nat → Nat
  | 0 => 0
  | n + 1 => sumN g n + g n
theorem sumN_le (g : Nat → Nat) (B : Nat) (h : ∀ i, g i ≤ B) : ∀ n, sumN g n ≤ n * B
  | 0 => Nat.zero_le _
  | n + 1 => by
    have h1 := sumN_le g B h n
    have h2 := h n
    unfold sumN
    rw [Nat.succ_mul]
    omega
theorem dn {N : Nat} {P : Nat → Prop} (h0 : P N) (hs : ∀ i, i < N → P (i + 1) → P i) : ∀ i, i ≤ N → P i := by
  intro i hi
  obtain ⟨k, hk⟩ : ∃ k, i + k = N := ⟨N - i, by omega⟩
  induction k generalizing i with
  | zero => rw [show i = N by omega]; exact h0
  | succ k ih => exact hs i (by omega) (ih (i + 1) (by omega) (by omega))
/-- a loop from 0 to N over a state that changes: R i holds at its head -/
theorem dnR {N : Nat} {σ : Type} {R : Nat → σ → Prop} {P : Nat → σ → Prop} (h0 : ∀ s, R N s → P N s) (hs : ∀ i, i < N → (∀ s, R (i + 1) s → P (i + 1) s) → ∀ s, R i s → P i s) : ∀ i, i ≤ N → ∀ s, R i s → P i s := dn (P := fun i => ∀ s, R i s → P i s) h0 hs
theorem isGr.cong {f : Fm} {a : Nat} {g g' : Nat → Nat → Nat} (h : isGr f a g) (hg : ∀ r, r < 8 → g r = g' r) : isGr f a g' := ⟨h.1, fun i hi => by rw [← hg i hi]; exact h.2 i hi⟩
def mixG (g h : Nat → Nat → Nat) (i : Nat) : Nat → Nat → Nat := fun r => if r < i then g r else h r
/-- a route is lost, is taken -/
def los (M : Cm) (i j : Nat) : Cm := mup (mup (mup (mup M 2 i j 0) 3 i j 0) 4 i j 0) 5 i j 0
def tk (M : Cm) (i j n d s : Nat) : Cm := mup (mup (mup (mup M 2 i j d) 3 i j n) 4 i j s) 5 i j 0
theorem sm.up {M : Cm} (h : sm M) {t r j v : Nat} (hv : v < 1048576) (h0 : t = 0 → v < 2 := by omega) : sm (mup M t r j v) := by
  refine ⟨fun t' r' j' ht => ?_, fun j' hj => ?_, fun r' j' => ?_⟩
  · rw [mup_at]
    split
    · exact hv
    · exact h.1 _ _ _ ht
  · rw [mup_at]
    split
    · exact hv
    · exact h.2.1 _ hj
  · rw [mup_at]
    split
    · rename_i q
      exact h0 q.1.symm
    · exact h.2.2 _ _
/-- the counters may grow -/
theorem sm.upc {M : Cm} (h : sm M) {j v : Nat} (hj : 5 ≤ j) : sm (mup M 11 0 j v) := by
  refine ⟨fun t' r' j' ht => ?_, fun j' hj' => ?_, fun r' j' => ?_⟩
  · rw [mup_ne (by omega)]
    exact h.1 _ _ _ ht
  · rw [mup_at, if_neg (by omega)]
    exact h.2.1 _ hj'
  · rw [mup_ne (by omega)]
    exact h.2.2 _ _
theorem sm.los {M : Cm} (h : sm M) (i j : Nat) : sm (los M i j) := (((h.up (by omega)).up (by omega)).up (by omega)).up (by omega)
theorem sm.tk {M : Cm} (h : sm M) {i j n d s : Nat} (hn : n < 1048576) (hd : d < 1048576) (hs : s < 1048576) : sm (tk M i j n d s) := (((h.up hd).up hn).up hs).up (by omega)
def loA (M : Cm) (i n : Nat) : Nat → Cm
  | 0 => M
  | k + 1 => if 0 < loA M i n k 2 i k ∧ loA M i n k 3 i k = n then los (loA M i n k) i k else loA M i n k
theorem sm.loA {M : Cm} (h : sm M) (i n : Nat) : ∀ k, sm (loA M i n k)
  | 0 => h
  | k + 1 => by
    have := sm.loA h i n k
    show sm (if _ then _ else _)
    split
    · exact this.los i k
    · exact this
def chgR (M N : Cm) (i n : Nat) : Nat := cntN (fun j => M 2 i j ≠ N 2 i j ∨ M 3 i j ≠ N 3 i j) n
def chg (M N : Cm) (n : Nat) : Nat := sumN (fun i => chgR M N i 8) n
theorem mup_o {M : Cm} {t r j v t' : Nat} (h : t' ≠ t) : mup M t r j v t' = M t' := mup_ne h
theorem isLt.set6 {f : Fm} {a k v : Nat} {M : Cm} (h : isLt f a M) : isLt (va_up f (a + 1) (some (.inl (1, 10, .inl (rw1 (hup (M 6 0) k v)))))) a (mup M 6 0 k v) := by
  obtain ⟨h0, h1, h2, h3, h4, h5⟩ := h
  refine ⟨?_, ?_, ?_, ?_, ?_, ?_⟩ <;> simp (disch := omega) only [up_fr, va_up_self, mup_eq, mup_ne, gup_eq, h0, h1, h2, h3, h4, h5, Nat.reduceEqDiff, ne_eq, not_false_eq_true]
theorem isLt.set7 {f : Fm} {a k v : Nat} {M : Cm} (h : isLt f a M) : isLt (va_up f (a + 2) (some (.inl (1, 10, .inl (rw1 (hup (M 7 0) k v)))))) a (mup M 7 0 k v) := by
  obtain ⟨h0, h1, h2, h3, h4, h5⟩ := h
  refine ⟨?_, ?_, ?_, ?_, ?_, ?_⟩ <;> simp (disch := omega) only [up_fr, va_up_self, mup_eq, mup_ne, gup_eq, h0, h1, h2, h3, h4, h5, Nat.reduceEqDiff, ne_eq, not_false_eq_true]
theorem isLt.set8 {f : Fm} {a k v : Nat} {M : Cm} (h : isLt f a M) : isLt (va_up f (a + 3) (some (.inl (1, 10, .inl (rw1 (hup (M 8 0) k v)))))) a (mup M 8 0 k v) := by
  obtain ⟨h0, h1, h2, h3, h4, h5⟩ := h
  refine ⟨?_, ?_, ?_, ?_, ?_, ?_⟩ <;> simp (disch := omega) only [up_fr, va_up_self, mup_eq, mup_ne, gup_eq, h0, h1, h2, h3, h4, h5, Nat.reduceEqDiff, ne_eq, not_false_eq_true]
theorem isLt.set9 {f : Fm} {a k v : Nat} {M : Cm} (h : isLt f a M) : isLt (va_up f (a + 4) (some (.inl (1, 10, .inl (rw1 (hup (M 9 0) k v)))))) a (mup M 9 0 k v) := by
  obtain ⟨h0, h1, h2, h3, h4, h5⟩ := h
  refine ⟨?_, ?_, ?_, ?_, ?_, ?_⟩ <;> simp (disch := omega) only [up_fr, va_up_self, mup_eq, mup_ne, gup_eq, h0, h1, h2, h3, h4, h5, Nat.reduceEqDiff, ne_eq, not_false_eq_true]
theorem isLt.set10 {f : Fm} {a k v : Nat} {M : Cm} (h : isLt f a M) : isLt (va_up f (a + 5) (some (.inl (1, 10, .inl (rw1 (hup (M 10 0) k v)))))) a (mup M 10 0 k v) := by
  obtain ⟨h0, h1, h2, h3, h4, h5⟩ := h
  refine ⟨?_, ?_, ?_, ?_, ?_, ?_⟩ <;> simp (disch := omega) only [up_fr, va_up_self, mup_eq, mup_ne, gup_eq, h0, h1, h2, h3, h4, h5, Nat.reduceEqDiff, ne_eq, not_false_eq_true]
theorem isLt.setc {f : Fm} {a v : Nat} {M : Cm} (h : isLt f a M) : isLt (va_up f a (some (.inr (4, [.ref (a + 1), .ref (a + 2), .ref (a + 3), .ref (a + 4), .ref (a + 5), .int (nI v)])))) a (mup M 11 0 1 v) := by
  obtain ⟨h0, h1, h2, h3, h4, h5⟩ := h
  refine ⟨?_, ?_, ?_, ?_, ?_, ?_⟩ <;> simp (disch := omega) only [up_fr, va_up_self, mup_eq, mup_ne, gup_eq, hup_eq, h0, h1, h2, h3, h4, h5, Nat.reduceEqDiff, ne_eq, not_false_eq_true]
/-- a letter goes on, waits -/
def leapL (M : Cm) (k n : Nat) : Cm := if n = M 7 0 k then mup (mup (mup M 6 0 k n) 9 0 k (M 9 0 k + 1)) 8 0 k 1 else if 16 ≤ M 9 0 k + 1 then mup (mup (mup M 6 0 k n) 9 0 k (M 9 0 k + 1)) 8 0 k 2 else mup (mup M 6 0 k n) 9 0 k (M 9 0 k + 1)
def waitL (M : Cm) (k : Nat) : Cm := if 3 ≤ M 10 0 k + 1 then mup (mup M 10 0 k (M 10 0 k + 1)) 8 0 k 2 else mup M 10 0 k (M 10 0 k + 1)
def stepL (M N : Cm) (k : Nat) : Cm := if M 8 0 k = 0 then (if 0 < N 2 (M 6 0 k) (M 7 0 k) then leapL M k (N 3 (M 6 0 k) (M 7 0 k)) else waitL M k) else M
def goL (M N : Cm) : Nat → Cm
  | 0 => M
  | k + 1 => stepL (goL M N k) N k
theorem stepL_ne {M N : Cm} {k t r j : Nat} (h : j ≠ k) : stepL M N k t r j = M t r j := by
  unfold stepL leapL waitL
  split
  · split
    · split
      · simp only [mup_at]
        rw [if_neg (by omega), if_neg (by omega), if_neg (by omega)]
      · split
        · simp only [mup_at]
          rw [if_neg (by omega), if_neg (by omega), if_neg (by omega)]
        · simp only [mup_at]
          rw [if_neg (by omega), if_neg (by omega)]
    · split
      · simp only [mup_at]
        rw [if_neg (by omega), if_neg (by omega)]
      · simp only [mup_at]
        rw [if_neg (by omega)]
  · rfl
theorem stepL_t {M N : Cm} {k t : Nat} (h : t < 6 ∨ 10 < t) : stepL M N k t = M t := by
  unfold stepL leapL waitL
  split
  · split
    · split
      · rw [mup_ne (by omega), mup_ne (by omega), mup_ne (by omega)]
      · split
        · rw [mup_ne (by omega), mup_ne (by omega), mup_ne (by omega)]
        · rw [mup_ne (by omega), mup_ne (by omega)]
    · split
      · rw [mup_ne (by omega), mup_ne (by omega)]
      · rw [mup_ne (by omega)]
  · rfl
theorem goL_ne (M N : Cm) {t r j : Nat} : ∀ (k : Nat), k ≤ j → goL M N k t r j = M t r j
  | 0, _ => rfl
  | k + 1, h => (stepL_ne (by omega)).trans (goL_ne M N k (by omega))
theorem goL_t (M N : Cm) {t : Nat} (h : t < 6 ∨ 10 < t) : ∀ k, goL M N k t = M t
  | 0 => rfl
  | k + 1 => (stepL_t h).trans (goL_t M N h k)
theorem sm.stepLs {M N : Cm} {k : Nat} (h : sm M) (h3 : N 3 (M 6 0 k) (M 7 0 k) < 1048576) (h9 : M 9 0 k < 1000) (h10 : M 10 0 k < 1000) : sm (stepL M N k) := by
  unfold stepL leapL waitL
  split
  · split
    · split
      · exact ((h.up h3).up (by omega)).up (by omega)
      · split
        · exact ((h.up h3).up (by omega)).up (by omega)
        · exact (h.up h3).up (by omega)
    · split
      · exact (h.up (by omega)).up (by omega)
      · exact h.up (by omega)
  · exact h
/-- letters that can go on -/
def okL (M : Cm) : Prop := M 11 0 1 ≤ 10 ∧ ∀ k, k < M 11 0 1 → M 6 0 k < 8 ∧ M 7 0 k < 8 ∧ M 9 0 k < 1000 ∧ M 10 0 k < 1000
theorem sm.goLs {M N : Cm} (h : sm M) (hN : sm N) (hL : okL M) : ∀ k, k ≤ M 11 0 1 → sm (goL M N k)
  | 0, _ => h
  | k + 1, hk => (sm.goLs h hN hL k (by omega)).stepLs (hN.1 _ _ _ (by omega)) (by rw [goL_ne M N k (Nat.le_refl k)]; exact (hL.2 k (by omega)).2.2.1) (by rw [goL_ne M N k (Nat.le_refl k)]; exact (hL.2 k (by omega)).2.2.2)
theorem ite01 (p : Prop) [Decidable p] : ∃ b : Nat, (if p then 1 else 0) = b ∧ ((b = 1 ∧ p) ∨ (b = 0 ∧ ¬ p)) := by
  by_cases h : p
  · exact ⟨1, if_pos h, Or.inl ⟨rfl, h⟩⟩
  · exact ⟨0, if_neg h, Or.inr ⟨rfl, h⟩⟩
