/-! the country's changes keep it: days -/
theorem Inv.cnt {B j v : Nat} {M : Cm} (h : Inv B M) (hj : 6 ≤ j) : Inv B (mup M 11 0 j v) := by
  refine h.eqv (h.1.1.1.upc (by omega)) (fun t _ _ => mup_ne (by omega)) ?_ ?_ ?_ ?_ ?_
  all_goals rw [mup_at, if_neg (by omega)]
  · exact h.2.2.2.2.1
  · exact h.2.2.2.2.2
theorem Inv.hearSI {B t h g : Nat} {M Mm : Cm} (I : Inv B M) (ht : t < M 11 0 2) (hh : h < M 11 0 2) (hg : g < M 11 0 2) (h1 : 0 < M 1 t h) : Inv B (hearS M Mm t h g) := by
  have hF := I.1.2.1
  have r1 := I.2.1.1 t h
  have b4 := I.2.2.2.2.1
  unfold hearS
  split
  · exact I
  · rename_i q0
    split
    · split
      · exact I.rts (fun t ht => los_t ht) I.1.1.los I.2.2.1.los
      · exact I
    · rename_i q1
      split
      · exact I.rts (fun t ht => tk_t ht) (I.1.1.tk (by omega) (by omega) (by omega)) (I.2.2.1.tk hh hg (by omega) (by omega) (by omega) (by omega) (by omega) (by omega))
      · exact I
theorem Inv.hearFI {B t h : Nat} {M Mm : Cm} (I : Inv B M) (ht : t < M 11 0 2) (hh : h < M 11 0 2) (h1 : 0 < M 1 t h) : ∀ n, n ≤ M 11 0 2 → Inv B (hearF M Mm t h n)
  | 0, _ => I
  | n + 1, hn => by
    have e := hearF_t (M := M) (Mm := Mm) (t := t) (h := h) (k := 11) (by omega) n
    have e1 := hearF_t (M := M) (Mm := Mm) (t := t) (h := h) (k := 1) (by omega) n
    exact (I.hearFI ht hh h1 n (by omega)).hearSI (by rw [e]; exact ht) (by rw [e]; exact hh) (by rw [e]; omega) (by rw [e1]; exact h1)
theorem Inv.tellSI {B t h : Nat} {M Mm : Cm} (I : Inv B M) (ht : t < M 11 0 2) (hh : h < M 11 0 2) : Inv B (tellS M Mm (M 11 0 2) t h) := by
  unfold tellS
  split
  · rename_i q
    have e : mup M 11 0 6 (M 11 0 6 + 1) 11 0 2 = M 11 0 2 := by rw [mup_at, if_neg (by omega)]
    exact (I.cnt (j := 6) (by omega)).hearFI (by rw [e]; exact ht) (by rw [e]; exact hh) (by rw [mup_ne (by omega)]; exact q.2) _ (by rw [e]; omega)
  · exact I
theorem Inv.tellRI {B h : Nat} {M Mm : Cm} (I : Inv B M) (hh : h < M 11 0 2) : ∀ n, n ≤ M 11 0 2 → Inv B (tellR M Mm (M 11 0 2) h n)
  | 0, _ => I
  | n + 1, hn => by
    have ih := I.tellRI (Mm := Mm) hh n (by omega)
    have e : tellR M Mm (M 11 0 2) h n 11 0 2 = M 11 0 2 := tellR_11 (by omega) n
    have := ih.tellSI (Mm := Mm) (t := n) (h := h) (by rw [e]; omega) (by rw [e]; exact hh)
    rw [e] at this
    exact this
theorem Inv.tellAI {B : Nat} {M Mm : Cm} (I : Inv B M) : ∀ n, n ≤ M 11 0 2 → Inv B (tellA M Mm (M 11 0 2) n)
  | 0, _ => I
  | n + 1, hn => by
    have ih := I.tellAI (Mm := Mm) n (by omega)
    have e : tellA M Mm (M 11 0 2) n 11 0 2 = M 11 0 2 := tellA_11 (by omega) n
    have := ih.tellRI (Mm := Mm) (h := n) (by rw [e]; omega) (M 11 0 2) (by rw [e]; omega)
    rw [e] at this
    exact this
theorem iRt.age {M : Cm} {i g v : Nat} (h : iRt M) : iRt (mup M 5 i g v) := by
  intro a b
  have := h a b
  unfold rtc at this ⊢
  rw [mup_ne (by omega : (2 : Nat) ≠ 5), mup_ne (by omega : (4 : Nat) ≠ 5), mup_ne (by omega : (3 : Nat) ≠ 5), mup_ne (by omega : (1 : Nat) ≠ 5), mup_ne (by omega : (11 : Nat) ≠ 5)]
  exact this
theorem Inv.ageSI {B i g : Nat} {M Mm : Cm} (I : Inv B M) : Inv B (ageS M Mm i g) := by
  refine I.rts (fun t ht => ageS_t ht) (ageS_R I.1.1) ?_
  unfold ageS
  split
  · split
    · exact I.2.2.1.age.los
    · exact I.2.2.1.age
  · exact I.2.2.1
theorem Inv.ageFI {B i : Nat} {M Mm : Cm} (I : Inv B M) : ∀ n, Inv B (ageF M Mm i n)
  | 0 => I
  | n + 1 => (I.ageFI n).ageSI
theorem Inv.ageAI {B F : Nat} {M Mm : Cm} (I : Inv B M) : ∀ n, Inv B (ageA M Mm F n)
  | 0 => I
  | n + 1 => (I.ageAI n).ageFI F
theorem Inv.dayBI {B : Nat} {M : Cm} (I : Inv B M) : Inv B (dayB M) := (I.tellAI _ (Nat.le_refl _)).ageAI _
theorem ltc_step {M N : Cm} {k : Nat} (h : ltc M k) (h2 : M 8 0 k = 0 → M 9 0 k < 16 ∧ M 10 0 k < 3) (hF : N 11 0 2 = M 11 0 2) (hN : ∀ i j, 0 < N 2 i j → N 3 i j < N 11 0 2) : ltc (stepL M N k) k := by
  obtain ⟨h6, h7, h8, h81, h82⟩ := h
  unfold ltc stepL leapL waitL
  split
  · rename_i q
    have h2 := h2 q
    split
    · rename_i q2
      have hn := hN _ _ q2
      split
      · simp [mup_at]
        omega
      · split
        · simp [mup_at]
          omega
        · simp [mup_at, q]
          omega
    · split
      · simp [mup_at]
        omega
      · simp [mup_at, q]
        omega
  · exact ⟨h6, h7, h8, h81, h82⟩
theorem Inv.nx {B i j : Nat} {M : Cm} (I : Inv B M) (h : 0 < M 2 i j) : M 3 i j < M 11 0 2 := by
  have h1 := (I.2.2.1 i j).2 h
  have h2 := I.2.1.1 i (M 3 i j)
  have h3 := I.2.1.2.2.2.1 (M 3 i j) i
  omega
theorem iLt_goL {B : Nat} {M : Cm} (I : Inv B M) : ∀ n, iLt (goL M M n)
  | 0 => I.2.2.2.1
  | n + 1 => by
    have ih := iLt_goL I n
    have hL := goL_L2 I.1.1.2.1 I.1.2.2 n
    have e : goL M M (n + 1) 11 = M 11 := goL_t _ _ (by omega) _
    have e0 : goL M M n 11 = M 11 := goL_t _ _ (by omega) _
    intro k hk
    rw [e] at hk
    by_cases q : k = n
    · subst q
      exact ltc_step (ih k (by rw [e0]; exact hk)) (hL.2 k (by rw [e0]; exact hk)).2.2.2.2 (by rw [e0]) (fun i j hp => I.nx hp)
    · have es : ∀ t r, goL M M (n + 1) t r k = goL M M n t r k := fun t r => stepL_ne q
      have := ih k (by rw [e0]; exact hk)
      unfold ltc at this ⊢
      rw [es, es, es, es, es, e]
      rw [e0] at this
      exact this
theorem Inv.goLI {B : Nat} {M : Cm} (I : Inv B M) : Inv B (goL M M (M 11 0 1)) := by
  have et : ∀ t, t < 6 ∨ 10 < t → goL M M (M 11 0 1) t = M t := fun t ht => goL_t _ _ ht _
  have hs : sm (goL M M (M 11 0 1)) := I.1.1.1.goLs I.1.1.1 I.1.2.2.ok _ (Nat.le_refl _)
  refine ⟨⟨I.1.1.eqv hs (et 3 (by omega)) (et 5 (by omega)), by rw [et 11 (by omega)]; exact I.1.2.1, goL_L2 I.1.1.2.1 I.1.2.2 _⟩, ?_, ?_, iLt_goL I _, by rw [et 11 (by omega)]; exact I.2.2.2.2.1, by rw [et 11 (by omega)]; exact I.2.2.2.2.2⟩
  · have := I.2.1
    unfold iRd degN at this ⊢
    rw [et 1 (by omega), et 11 (by omega)]
    exact this
  · have := I.2.2.1
    unfold iRt rtc at this ⊢
    rw [et 1 (by omega), et 2 (by omega), et 3 (by omega), et 4 (by omega), et 11 (by omega)]
    exact this
theorem Inv.dayFI {B : Nat} {M : Cm} (I : Inv B M) : Inv (B + 1) (dayF M) := by
  have e1 : dayB M 11 0 1 = M 11 0 1 := dayB_11 (by omega)
  have e5 : dayB M 11 0 5 = M 11 0 5 := dayB_11 (by omega)
  have hG := I.dayBI.goLI
  rw [e1] at hG
  have hS := hG.1.1.1.upc (j := 5) (v := M 11 0 5 + 1) (by omega)
  have h5 := I.2.2.2.2.2
  have hG2 : Inv (B + 1) (dayG M) := by
    refine (hG.mono (Nat.le_succ B)).eqv hS (fun t _ _ => mup_ne (by omega)) ?_ ?_ ?_ ?_ ?_
    · unfold dayG
      rw [mup_at, if_neg (by omega)]
    · unfold dayG
      rw [mup_at, if_neg (by omega)]
    · unfold dayG
      rw [mup_at, if_neg (by omega)]
    · unfold dayG
      rw [mup_at, if_neg (by omega)]
      exact hG.2.2.2.2.1
    · unfold dayG
      rw [mup_at, if_pos (by omega)]
      omega
  exact hG2.cnt (by omega)
theorem Inv.dayII {B : Nat} {M : Cm} (I : Inv B M) : ∀ n, Inv (B + n) (dayI M n)
  | 0 => I
  | n + 1 => (I.dayII n).dayFI
theorem dayT_le (M : Cm) : ∀ n, dayT M n ≤ 64 * n
  | 0 => Nat.zero_le _
  | n + 1 => by
    have := dayT_le M n
    have h2 : dayN (dayI M n) ≤ 64 := chg_le _ _
    unfold dayT
    omega
theorem ng11 : (-11 : Int32) < 0 := by decide +kernel
theorem ng12 : (-12 : Int32) < 0 := by decide +kernel
theorem ng14 : (-14 : Int32) < 0 := by decide +kernel
theorem nn9 {n : Nat} (h : n < 2147483648) : (0 : Int32) ≤ nI n := of_eq_true (nI_le0 h)
/-! an order keeps it, or changes nothing -/
def okO (B : Nat) (M : Cm) (x : Rw) : Prop := (x.1 < 0 ∧ x.2.1 = M) ∨ (0 ≤ x.1 ∧ Inv (B + 30) x.2.1)
theorem okO.mk {B : Nat} {M M' : Cm} {a r d : Int32} (h1 : 0 ≤ a) (h2 : Inv (B + 30) M') : okO B M (a, M', r, d) := Or.inr ⟨h1, h2⟩
theorem okO.no {B : Nat} {M : Cm} {a r d : Int32} (h1 : a < 0) : okO B M (a, M, r, d) := Or.inl ⟨h1, rfl⟩
theorem fortO_ok {B : Nat} {M : Cm} {r d : Int32} (I : Inv B M) : okO B M (fortO M r d) := by
  unfold fortO
  split
  · exact okO.no ng14
  · have hh : Inv (B + 30) (mup M 11 0 2 (M 11 0 2 + 1)) := (I.fort (by omega)).mono (by omega)
    exact okO.mk (nn9 (n := M 11 0 2) (by omega)) hh
theorem wayO_ok {B n : Nat} {M : Cm} {r d : Int32} (I : Inv B M) : okO B M (wayO n M r d) := by
  unfold wayO
  have := I.1.1.1.s 3 (by omega)
  split
  · exact okO.no ng12
  · have hh : Inv (B + 30) (mup M 11 0 3 n) := (I.way (by omega)).mono (by omega)
    exact okO.mk (nn9 (n := M 11 0 3) (by omega)) hh
theorem boundO_ok {B n : Nat} {M : Cm} {r d : Int32} (I : Inv B M) : okO B M (boundO n M r d) := by
  unfold boundO
  have := I.1.1.1.s 4 (by omega)
  split
  · exact okO.no ng12
  · have hh : Inv (B + 30) (mup M 11 0 4 n) := (I.bound (by omega)).mono (by omega)
    exact okO.mk (nn9 (n := M 11 0 4) (by omega)) hh
theorem silO_ok {B i b : Nat} {M : Cm} {r d : Int32} (I : Inv B M) (hb : b < 2) : okO B M (silO i b M r d) := by
  unfold silO
  split
  · exact okO.no ng11
  · split
    · exact okO.no ng14
    · have := cntN_le (fun k => ¬ mup M 0 0 i b 0 0 k = 0) (M 11 0 2)
      have := I.1.2.1
      have hh : Inv (B + 30) (mup M 0 0 i b) := (I.sil hb).mono (by omega)
      exact okO.mk (nn9 (n := _) (by omega)) hh
theorem roadO_ok {B i j n : Nat} {M : Cm} {r d : Int32} (I : Inv B M) : okO B M (roadO i j n M r d) := by
  unfold roadO
  have := I.1.1.1.s 0 (by omega)
  split
  · exact okO.no ng11
  split
  · exact okO.no ng12
  split
  · exact okO.no ng14
  split
  · exact okO.no ng14
  split
  · exact okO.no ng14
  · have hh : Inv (B + 30) (roadM M i j n) := (I.road (by omega) (by omega) (by omega) (by omega) (by omega) (by omega) (by omega)).mono (by omega)
    exact okO.mk (nn9 (n := M 11 0 0 + 1) (by omega)) hh
theorem cutO_ok {B i j : Nat} {M : Cm} {r d : Int32} (I : Inv B M) : okO B M (cutO i j M r d) := by
  unfold cutO
  have h15 : M 1 i j ≤ 15 := I.2.1.2.1 i j
  have h9 : M 1 i j < 2147483648 := Nat.lt_of_le_of_lt h15 (Nat.le_of_ble_eq_true rfl)
  clear h15
  split
  · exact okO.no ng11
  split
  · exact okO.no ng14
  split
  · exact okO.no ng14
  · have hh : Inv (B + 30) (cutM M i j) := (I.cut (by omega) (by omega) (by omega) (by omega)).mono (by omega)
    exact okO.mk (nn9 h9) hh
theorem postO_ok {B i j : Nat} {M : Cm} {r d : Int32} (I : Inv B M) : okO B M (postO i j M r d) := by
  unfold postO
  have := I.1.1.1.s 1 (by omega)
  split
  · exact okO.no ng11
  split
  · exact okO.no ng14
  split
  · exact okO.no ng14
  · have hh : Inv (B + 30) (addL M i j) := (I.post (by omega) (by omega) (by omega) (by omega)).mono (by omega)
    exact okO.mk (nn9 (n := M 11 0 1) (by omega)) hh
theorem dayO_ok {B n : Nat} {M : Cm} {r d : Int32} (I : Inv B M) : okO B M (dayO n M r d) := by
  unfold dayO
  have := dayT_le M n
  split
  · exact okO.no ng12
  · have hh : Inv (B + 30) (dayI M n) := (I.dayII n).mono (by omega)
    exact okO.mk (nn9 (n := dayT M n) (by omega)) hh
theorem carO_ok {B : Nat} {M : Cm} {r d : Int32} {s : Rs} (I : Inv B M) : okO B M (carO s M r d) := by
  unfold carO
  generalize s 1 = k
  match k with
  | 0 => exact fortO_ok I
  | 1 => exact roadO_ok I
  | 2 => exact cutO_ok I
  | 3 => exact silO_ok I (by omega)
  | 4 => exact silO_ok I (by omega)
  | 5 => exact wayO_ok I
  | 6 => exact boundO_ok I
  | 7 => exact dayO_ok I
  | n + 8 => exact postO_ok I
