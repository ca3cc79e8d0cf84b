/-! the model: a country is M tag row column; what the heap shows of it -/
theorem nI_zero9 : (0 : Int32) = nI 0 := rfl
theorem nI_nlt0 {n : Nat} (h : n < 2147483648) : (nI n < nI 0) = False := by
  rw [eq_iff_iff, nI_ltI h (by omega)]
  exact ⟨fun q => by omega, False.elim⟩
theorem nI_lt0 {n : Nat} (h : n < 2147483648) : (nI 0 < nI n) = (0 < n) := by rw [eq_iff_iff, nI_ltI (by omega) h]
theorem nI_le0 {n : Nat} (h : n < 2147483648) : (nI 0 ≤ nI n) = True := by
  rw [eq_iff_iff, nI_leI (by omega) h]
  exact ⟨fun _ => trivial, fun _ => by omega⟩
theorem okv_int (x : Int32) : okv .int (.int x) = True := eq_true ⟨rfl, rfl⟩
theorem okv_z0 : okv .boolean (.int (nI 0)) = True := eq_true ⟨rfl, rfl⟩
theorem okv_z1 : okv .boolean (.int (nI 1)) = True := eq_true ⟨rfl, rfl⟩
theorem okv_zN {n : Nat} (h : n < 2) : okv .boolean (.int (nI n)) = True := by
  rcases (show n = 0 ∨ n = 1 by omega) with rfl | rfl
  · exact okv_z0
  · exact okv_z1
theorem okv_ref (C : String) (a : Nat) : okv (.object C) (.ref a) = True := eq_true ⟨rfl, rfl⟩
theorem okv_null (C : String) : okv (.object C) .null = True := eq_true ⟨rfl, rfl⟩
theorem okv_arr (t : FieldType) (a : Nat) : okv (.array t) (.ref a) = True := eq_true ⟨rfl, rfl⟩
theorem vn_int (x : Int32) : vp_nar (tyA 1) x = x := by
  show (match narrow .int (.int x) with | .int y => y | _ => 0) = x
  rw [vp_nar_int]
theorem vn_z0 : vp_nar (tyA 2) (nI 0) = nI 0 := by decide +kernel
theorem vn_z1 : vp_nar (tyA 2) (nI 1) = nI 1 := by decide +kernel
theorem vn_zN {n : Nat} (h : n < 2) : vp_nar (tyA 2) (nI n) = nI n := by
  rcases (show n = 0 ∨ n = 1 by omega) with rfl | rfl
  · exact vn_z0
  · exact vn_z1
theorem nr_int (x : Int32) : (narrow .int (.int x) = .int x) = True := eq_true rfl
theorem nr_z {n : Nat} (h : n < 2) : (narrow .boolean (.int (nI n)) = .int (nI n)) = True := by
  rcases (show n = 0 ∨ n = 1 by omega) with rfl | rfl <;> exact eq_true (by decide +kernel)
abbrev Cm : Type := Nat → Nat → Nat → Nat
def mup (M : Cm) (t r j v : Nat) : Cm := fun t' => if t' = t then (fun r' => if r' = r then (fun j' => if j' = j then v else M t r j') else M t r') else M t'
theorem mup_ne {M : Cm} {t r j v t' : Nat} (h : t' ≠ t) : mup M t r j v t' = M t' := if_neg h
theorem mup_r {M : Cm} {t r j v r' : Nat} (h : r' ≠ r) : mup M t r j v t r' = M t r' := by
  unfold mup
  rw [if_pos rfl, if_neg h]
theorem mup_j {M : Cm} {t r j v j' : Nat} (h : j' ≠ j) : mup M t r j v t r j' = M t r j' := by
  unfold mup
  rw [if_pos rfl, if_pos rfl, if_neg h]
theorem mup_eq {M : Cm} {t r j v : Nat} : mup M t r j v t r j = v := by
  unfold mup
  rw [if_pos rfl, if_pos rfl, if_pos rfl]
theorem mup_at {M : Cm} {t r j v t' r' j' : Nat} : mup M t r j v t' r' j' = if t' = t ∧ r' = r ∧ j' = j then v else M t' r' j' := by
  by_cases h1 : t' = t
  · subst h1
    by_cases h2 : r' = r
    · subst h2
      by_cases h3 : j' = j
      · subst h3
        rw [mup_eq, if_pos ⟨rfl, rfl, rfl⟩]
      · rw [mup_j h3, if_neg (fun q => h3 q.2.2)]
    · rw [mup_r h2, if_neg (fun q => h2 q.2.1)]
  · rw [mup_ne h1, if_neg (fun q => h1 q.1)]
def rwM (M : Cm) (t r : Nat) : Nat → Int32 := fun j => nI (M t r j)
/-- an 8 by 8 grid: the outer array at a, its rows behind it -/
def isGr (f : Fm) (a : Nat) (M : Cm) (t : Nat) : Prop := f a = some (.inl (4, 8, .inr (fun i => if i < 8 then some (a + 1 + i) else none))) ∧ ∀ i, i < 8 → f (a + 1 + i) = some (.inl (1, 8, .inl (rwM M t i)))
def isRd (f : Fm) (a : Nat) (M : Cm) : Prop := f a = some (.inr (7, [.ref (a + 1), .int (nI (M 11 0 0))])) ∧ isGr f (a + 1) M 1
def isRt (f : Fm) (a : Nat) (M : Cm) : Prop := f a = some (.inr (8, [.ref (a + 1), .ref (a + 10), .ref (a + 19), .ref (a + 28)])) ∧ isGr f (a + 1) M 2 ∧ isGr f (a + 10) M 3 ∧ isGr f (a + 19) M 4 ∧ isGr f (a + 28) M 5
def isLt (f : Fm) (a : Nat) (M : Cm) : Prop := f a = some (.inr (4, [.ref (a + 1), .ref (a + 2), .ref (a + 3), .ref (a + 4), .ref (a + 5), .int (nI (M 11 0 1))])) ∧ ∀ k, k < 5 → f (a + 1 + k) = some (.inl (1, 10, .inl (rwM M (6 + k) 0)))
def isCo (f : Fm) (c : Nat) (M : Cm) : Prop := f c = some (.inr (1, [.ref (c + 1), .ref (c + 2), .ref (c + 12), .ref (c + 49), .int (nI (M 11 0 2)), .int (nI (M 11 0 3)), .int (nI (M 11 0 4)), .int (nI (M 11 0 5)), .int (nI (M 11 0 6)), .int (nI (M 11 0 7))])) ∧ f (c + 1) = some (.inl (2, 8, .inl (rwM M 0 0))) ∧ isRd f (c + 2) M ∧ isRt f (c + 12) M ∧ isLt f (c + 49) M
/-- all but the three counters is small -/
def sm (M : Cm) : Prop := (∀ t r j, t < 11 → M t r j < 1048576) ∧ ∀ j, j < 5 → M 11 0 j < 1048576
theorem rw_cl {M : Cm} {t r j : Nat} (h : j < 2147483648) : rwM M t r (nI j).toNatClampNeg = nI (M t r j) := by
  rw [nI_clamp h]
  rfl
theorem rw_ne {M : Cm} {t r j v t' : Nat} (h : t' ≠ t) (r' : Nat) : rwM (mup M t r j v) t' r' = rwM M t' r' := by
  unfold rwM
  rw [mup_ne h]
theorem rw_r {M : Cm} {t r j v r' : Nat} (h : r' ≠ r) : rwM (mup M t r j v) t r' = rwM M t r' := by
  unfold rwM
  rw [mup_r h]
theorem rw_up {M : Cm} {t r j v : Nat} : rwM (mup M t r j v) t r = upd (rwM M t r) j (nI v) := by
  funext q
  unfold rwM upd
  by_cases h : q = j
  · subst h
    rw [mup_eq, if_pos rfl]
  · rw [mup_j h, if_neg h]
theorem isGr.fr {f f' : Fm} {a t : Nat} {M : Cm} (h : isGr f a M t) (hq : ∀ q, a ≤ q → q < a + 9 → f' q = f q) : isGr f' a M t := ⟨by rw [hq a (by omega) (by omega)]; exact h.1, fun i hi => by rw [hq (a + 1 + i) (by omega) (by omega)]; exact h.2 i hi⟩
theorem isGr.up {f : Fm} {a t x : Nat} {c : Option Ce} {M : Cm} (h : isGr f a M t) (hx : x < a ∨ a + 9 ≤ x) : isGr (va_up f x c) a M t := h.fr (fun q h1 h2 => va_up_ne _ _ (by omega))
theorem isGr.ne {f : Fm} {a t t' r j v : Nat} {M : Cm} (h : isGr f a M t) (ht : t ≠ t') : isGr f a (mup M t' r j v) t := ⟨h.1, fun i hi => by rw [rw_ne ht]; exact h.2 i hi⟩
theorem isGr.eqv {f : Fm} {a t : Nat} {M M' : Cm} (h : isGr f a M t) (ht : M' t = M t) : isGr f a M' t := ⟨h.1, fun i hi => by
  unfold rwM
  rw [ht]
  exact h.2 i hi⟩
theorem isGr.set {f : Fm} {a t i j v : Nat} {M : Cm} (h : isGr f a M t) (hi : i < 8) : isGr (va_up f (a + 1 + i) (some (.inl (1, 8, .inl (upd (rwM M t i) j (nI v)))))) a (mup M t i j v) t := ⟨by rw [va_up_ne _ _ (by omega)]; exact h.1, fun r hr => by
  by_cases q : r = i
  · subst q
    rw [va_up_self, rw_up]
  · rw [va_up_ne _ _ (by omega), rw_r q]
    exact h.2 r hr⟩
theorem isRt.fr {f f' : Fm} {a : Nat} {M : Cm} (h : isRt f a M) (hq : ∀ q, a ≤ q → q < a + 37 → f' q = f q) : isRt f' a M := ⟨by rw [hq a (by omega) (by omega)]; exact h.1, h.2.1.fr (fun q h1 h2 => hq q (by omega) (by omega)), h.2.2.1.fr (fun q h1 h2 => hq q (by omega) (by omega)), h.2.2.2.1.fr (fun q h1 h2 => hq q (by omega) (by omega)), h.2.2.2.2.fr (fun q h1 h2 => hq q (by omega) (by omega))⟩
theorem isRt.eqv {f : Fm} {a : Nat} {M M' : Cm} (h : isRt f a M) (h2 : M' 2 = M 2) (h3 : M' 3 = M 3) (h4 : M' 4 = M 4) (h5 : M' 5 = M 5) : isRt f a M' := ⟨h.1, h.2.1.eqv h2, h.2.2.1.eqv h3, h.2.2.2.1.eqv h4, h.2.2.2.2.eqv h5⟩
theorem isRt.set2 {f : Fm} {a i j v : Nat} {M : Cm} (h : isRt f a M) (hi : i < 8) : isRt (va_up f (a + 1 + 1 + i) (some (.inl (1, 8, .inl (upd (rwM M 2 i) j (nI v)))))) a (mup M 2 i j v) := ⟨by rw [va_up_ne _ _ (by omega)]; exact h.1, h.2.1.set hi, (h.2.2.1.up (by omega)).ne (by decide), (h.2.2.2.1.up (by omega)).ne (by decide), (h.2.2.2.2.up (by omega)).ne (by decide)⟩
theorem isRt.set3 {f : Fm} {a i j v : Nat} {M : Cm} (h : isRt f a M) (hi : i < 8) : isRt (va_up f (a + 10 + 1 + i) (some (.inl (1, 8, .inl (upd (rwM M 3 i) j (nI v)))))) a (mup M 3 i j v) := ⟨by rw [va_up_ne _ _ (by omega)]; exact h.1, (h.2.1.up (by omega)).ne (by decide), h.2.2.1.set hi, (h.2.2.2.1.up (by omega)).ne (by decide), (h.2.2.2.2.up (by omega)).ne (by decide)⟩
theorem isRt.set4 {f : Fm} {a i j v : Nat} {M : Cm} (h : isRt f a M) (hi : i < 8) : isRt (va_up f (a + 19 + 1 + i) (some (.inl (1, 8, .inl (upd (rwM M 4 i) j (nI v)))))) a (mup M 4 i j v) := ⟨by rw [va_up_ne _ _ (by omega)]; exact h.1, (h.2.1.up (by omega)).ne (by decide), (h.2.2.1.up (by omega)).ne (by decide), h.2.2.2.1.set hi, (h.2.2.2.2.up (by omega)).ne (by decide)⟩
theorem isRt.set5 {f : Fm} {a i j v : Nat} {M : Cm} (h : isRt f a M) (hi : i < 8) : isRt (va_up f (a + 28 + 1 + i) (some (.inl (1, 8, .inl (upd (rwM M 5 i) j (nI v)))))) a (mup M 5 i j v) := ⟨by rw [va_up_ne _ _ (by omega)]; exact h.1, (h.2.1.up (by omega)).ne (by decide), (h.2.2.1.up (by omega)).ne (by decide), (h.2.2.2.1.up (by omega)).ne (by decide), h.2.2.2.2.set hi⟩
theorem isRd.fr {f f' : Fm} {a : Nat} {M : Cm} (h : isRd f a M) (hq : ∀ q, a ≤ q → q < a + 10 → f' q = f q) : isRd f' a M := ⟨by rw [hq a (by omega) (by omega)]; exact h.1, h.2.fr (fun q h1 h2 => hq q (by omega) (by omega))⟩
theorem isRd.eqv {f : Fm} {a : Nat} {M M' : Cm} (h : isRd f a M) (h1 : M' 1 = M 1) (h2 : M' 11 0 0 = M 11 0 0) : isRd f a M' := ⟨by rw [h2]; exact h.1, h.2.eqv h1⟩
theorem isLt.fr {f f' : Fm} {a : Nat} {M : Cm} (h : isLt f a M) (hq : ∀ q, a ≤ q → q < a + 6 → f' q = f q) : isLt f' a M := ⟨by rw [hq a (by omega) (by omega)]; exact h.1, fun k hk => by rw [hq (a + 1 + k) (by omega) (by omega)]; exact h.2 k hk⟩
theorem isLt.eqv {f : Fm} {a : Nat} {M M' : Cm} (h : isLt f a M) (h1 : ∀ k, k < 5 → M' (6 + k) = M (6 + k)) (h2 : M' 11 0 1 = M 11 0 1) : isLt f a M' := ⟨by rw [h2]; exact h.1, fun k hk => by
  unfold rwM
  rw [h1 k hk]
  exact h.2 k hk⟩
theorem isCo.fr {f f' : Fm} {a : Nat} {M : Cm} (h : isCo f a M) (hq : ∀ q, a ≤ q → q < a + 55 → f' q = f q) : isCo f' a M := ⟨by rw [hq a (by omega) (by omega)]; exact h.1, by rw [hq (a + 1) (by omega) (by omega)]; exact h.2.1, h.2.2.1.fr (fun q h1 h2 => hq q (by omega) (by omega)), h.2.2.2.1.fr (fun q h1 h2 => hq q (by omega) (by omega)), h.2.2.2.2.fr (fun q h1 h2 => hq q (by omega) (by omega))⟩
theorem up_fr {f : Fm} {x q : Nat} {c : Option Ce} (h : q ≠ x) : va_up f x c q = f q := va_up_ne _ _ h
