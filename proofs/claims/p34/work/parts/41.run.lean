/-! the face: a text's orders carried out -/
def cDg (F : List Nat) : Nat := (F.filter (fun c => c = 68 ∨ c = 63)).length
theorem rFt_4 {T : List Nat} {s : Rs} : (rFt T s).2 4 = s 4 := by
  unfold rFt
  split
  · show (if (4 : Nat) = 0 then s 0 + 1 else if (4 : Nat) = 5 then 1 else if (4 : Nat) = (if s 5 = 0 then 2 else 3) then T.getD (s 0) 0 - 97 else s 4) = s 4
    rw [if_neg (by omega), if_neg (by omega), if_neg (by split <;> omega)]
  · rfl
theorem rSk_4 {T : List Nat} {c : Nat} {s : Rs} : (rSk T c s).2 4 = s 4 := by
  unfold rSk
  split <;> rfl
theorem rDg_4 {T : List Nat} {s : Rs} : (rDg T s).2 4 + 1 ≤ (s 4 + 1) * 10 := by
  unfold rDg
  by_cases q : inN T (s 0) 48 57
  · rw [if_pos q]
    obtain ⟨q0, q1, q2⟩ := q
    show 10 * s 4 + T.getD (s 0) 0 - 48 + 1 ≤ _
    omega
  · rw [if_neg q]
    show s 4 + 1 ≤ _
    omega
theorem rPt_4 {T : List Nat} {c : Nat} {s : Rs} : (rPt T c s).2 4 + 1 ≤ (s 4 + 1) * 10 ^ (if c = 68 ∨ c = 63 then 1 else 0) := by
  unfold rPt
  by_cases a : c = 70
  · subst a
    rw [if_pos rfl, rFt_4]
    simp
  · rw [if_neg a]
    by_cases b : c = 68
    · subst b
      rw [if_pos rfl]
      simpa using rDg_4
    · rw [if_neg b]
      by_cases e : c = 63
      · subst e
        rw [if_pos rfl]
        simpa using rDg_4
      · rw [if_neg e, rSk_4, if_neg (by omega)]
        simp
theorem rWd_4 {T : List Nat} : ∀ (F : List Nat) {s : Rs}, (rWd T F s).2 4 + 1 ≤ (s 4 + 1) * 10 ^ cDg F
  | [], s => by simp [rWd, cDg]
  | c :: F, s => by
    have h1 := rPt_4 (T := T) (c := c) (s := s)
    have h2 := rWd_4 F (s := (rPt T c s).2) (T := T)
    have e : cDg (c :: F) = (if c = 68 ∨ c = 63 then 1 else 0) + cDg F := by
      unfold cDg
      by_cases q : c = 68 ∨ c = 63
      · rw [List.filter_cons_of_pos (by simpa using q), if_pos q, List.length_cons]
        omega
      · rw [List.filter_cons_of_neg (by simpa using q), if_neg q, Nat.zero_add]
    rw [e, Nat.pow_add, ← Nat.mul_assoc]
    unfold rWd
    split
    · refine Nat.le_trans h1 ?_
      exact Nat.le_mul_of_pos_right _ (Nat.pow_pos (by omega))
    · exact Nat.le_trans h2 (Nat.mul_le_mul_right _ h1)
theorem formL_dg : ∀ k, k < 9 → cDg (formL k) ≤ 2 := by decide +kernel
theorem rOr_4 {T : List Nat} {s : Rs} (h : fkD T (s 0) 9 ≠ 9) : (rOr T s).2 4 < 100 := by
  unfold rOr
  rw [if_neg h]
  have hk := fkD_lt (T := T) (p := s 0) 9
  have h1 := rWd_4 (T := T) (formL (fkD T (s 0) 9)) (s := hup (hup (hup s 1 (fkD T (s 0) 9)) 5 0) 4 0)
  have h2 : 10 ^ cDg (formL (fkD T (s 0) 9)) ≤ 10 ^ 2 := Nat.pow_le_pow_right (by omega) (formL_dg _ (by omega))
  have h3 : hup (hup (hup s 1 (fkD T (s 0) 9)) 5 0) 4 0 4 = 0 := rfl
  rw [h3] at h1
  omega
theorem rOr_4' {T : List Nat} {s : Rs} (h : s 4 < 100) : (rOr T s).2 4 < 100 := by
  by_cases q : fkD T (s 0) 9 = 9
  · unfold rOr
    rw [if_pos q]
    exact h
  · exact rOr_4 q
theorem rCt_4 {T : List Nat} : ∀ (m o : Nat) {s : Rs}, s 4 < 100 → (rCt T m o s).2 4 < 100
  | 0, o, s, h => h
  | m + 1, o, s, h => by
    have h1 := rOr_4' (T := T) h
    unfold rCt
    split
    · exact h1
    split
    · exact h1
    split
    · rw [rSk_4]
      exact h1
    · refine rCt_4 m (o + 1) ?_
      rw [rSk_4]
      exact h1
theorem rCt_n4 {T : List Nat} {m o : Nat} {s : Rs} (h : (rCt T m o s).1 ≠ 0) : (rCt T m o s).2 4 < 100 := by
  cases m with
  | zero => exact absurd rfl h
  | succ m =>
    have h1 : (rOr T s).2 4 < 100 ∨ (rOr T s).1 = 0 := by
      by_cases q : fkD T (s 0) 9 = 9
      · right
        unfold rOr
        rw [if_pos q]
      · exact Or.inl (rOr_4 q)
    unfold rCt at h ⊢
    rcases h1 with h1 | h1
    · by_cases a : (rOr T s).1 = 0
      · rw [if_pos a]
        exact h1
      rw [if_neg a]
      by_cases b : (rOr T s).2 0 = T.length
      · rw [if_pos b]
        exact h1
      rw [if_neg b]
      by_cases c : (rSk T 59 (rOr T s).2).1 = 0
      · rw [if_pos c]
        show (rSk T 59 (rOr T s).2).2 4 < 100
        rw [rSk_4]
        exact h1
      · rw [if_neg c]
        refine rCt_4 m (o + 1) ?_
        rw [rSk_4]
        exact h1
    · rw [if_pos h1] at h
      exact absurd rfl h
theorem rCt_le {T : List Nat} : ∀ (m o : Nat) {s : Rs}, (rCt T m o s).1 ≤ o + m
  | 0, o, s => Nat.zero_le _
  | m + 1, o, s => by
    unfold rCt
    split
    · exact Nat.zero_le _
    split
    · show o ≤ _
      omega
    split
    · exact Nat.zero_le _
    · have := rCt_le (T := T) m (o + 1) (s := (rSk T 59 (rOr T s).2).2)
      omega
theorem rCt_ok {T : List Nat} : ∀ (m o : Nat) {s : Rs}, rOk T s → rOk T (rCt T m o s).2
  | 0, o, s, h => h
  | m + 1, o, s, h => by
    have h1 := (rOr_ok (T := T) h).1
    have h2 := (rSk_ok (c := 59) h1).1
    unfold rCt
    split
    · exact h1
    split
    · exact h1
    split
    · exact h2
    · exact rCt_ok m (o + 1) h2
def rGood (T : List Nat) : Prop := ∀ s : Rs, (rCt T 60 1 (hup s 0 0)).1 ≠ 0
theorem isOx.rd {V : Nat → Nat} {f f' : Fm} {b z : Nat} {M : Cm} {r d : Int32} {L : List Cm} {W : Option Cm} {T Ln : List Nat} {Mm Mt Ms : Cm} {rows : Nat → Cm} {fr : Nat} {rs rs' : Rs} {tv lv hs : Nat} (h : isOx V f b z M r d L W T Ln Mm Mt Ms rows fr rs tv lv hs) (hR : isRr V f' (b + 709) (b + 710) rs') (hrs : rs' 1 < 9 ∧ rs' 2 < 8 ∧ rs' 3 < 8 ∧ rs' 5 < 2) (hq : ∀ q, q ≠ b + 709 → f' q = f q) : isOx V f' b z M r d L W T Ln Mm Mt Ms rows fr rs' tv lv hs := by
  obtain ⟨h1, h2, h3, h4, h5, h6, ⟨dd, de, db, h7⟩, ⟨p1, p2, p3, p4, p5, p6, h8⟩, h9, h10, h11, h12, h13, h14, h15, h16, h17⟩ := id h
  have v1 := h11.v
  have v2 := h12.v
  exact h.hi ⟨dd, de, db, h7.fr' (fun q _ _ => hq q (by omega))⟩ ⟨p1, p2, p3, p4, p5, p6, h8.fr (fun q _ _ => hq q (by omega))⟩ hR hrs (h11.fr (Nat.le_refl _) (hq _ (by omega)) (hq _ (by omega))) (h12.fr (Nat.le_refl _) (hq _ (by omega)) (hq _ (by omega))) h13 h15 h16 (fun q _ => hq q (by omega))
theorem isOx.rX {V : Nat → Nat} {f : Fm} {b z : Nat} {M : Cm} {r d : Int32} {L : List Cm} {W : Option Cm} {T Ln : List Nat} {Mm Mt Ms : Cm} {rows : Nat → Cm} {fr : Nat} {rs : Rs} {tv lv hs : Nat} (h : isOx V f b z M r d L W T Ln Mm Mt Ms rows fr rs tv lv hs) (h0 : rs 0 ≤ T.length) : rX V f (b + 709) (b + 710) tv (b + 714) z T rs := by
  obtain ⟨h1, h2, h3, h4, h5, h6, h7, h8, h9, h10, h11, h12, h13, h14, h15, h16, h17⟩ := h
  have v1 := h11.v
  exact ⟨h9, ⟨h0, h10⟩, by omega, h16, h11, by omega, by omega, h14.mono (by omega)⟩
abbrev Sp_X12_carryOutAll (V : Nat → Nat) : Spt := fun as z f K => ∃ (n b : Nat) (M : Cm) (r d : Int32) (L : List Cm) (W : Option Cm) (T Ln : List Nat) (Mm Mt Ms : Cm) (rows : Nat → Cm) (fr : Nat) (rs : Rs) (tv lv hs B : Nat), as = [.ref b, .int (nI n)] ∧ n < 100 ∧ isOx V f b z M r d L W T Ln Mm Mt Ms rows fr rs tv lv hs ∧ rs 4 < 100 ∧ Inv B M ∧ (∀ d' f' Mm' rows' rs', isOx V f' b z M (nI 7) d' L W T Ln Mm' Mt Ms rows' fr rs' tv lv hs → (∀ q, q < b → f' q = f q) → K (some (.int (-14))) z f') ∧ ∀ f' M' r' d' Mm' rows' fr' rs', Inv (B + 30 * n) M' → isOx V f' b z M' r' d' ((M :: L).take 8) W T Ln Mm' Mt Ms rows' fr' rs' tv lv hs → (∀ q, q < b → f' q = f q) → K (some (.int (nI n))) z f'
def rm_X12_carryOutAll : Room := { frames := 8, cells := 0, slots := 0, locals := 173 }
def q_X12_carryOutAll_89 (V : Nat → Nat) (ls : Ls) (st : List Value) (z : Zz) (f : Fm) (E : Ej) (R : Kr) : Prop := xret .int ls st z f E R
def q_X12_carryOutAll_86 (V : Nat → Nat) (ls : Ls) (st : List Value) (z : Zz) (f : Fm) (E : Ej) (R : Kr) : Prop := xcall 2 12 Sp_X12_kept 0 0 (q_X12_carryOutAll_89 V) ls st z f E R
def q_X12_carryOutAll_85 (V : Nat → Nat) (ls : Ls) (st : List Value) (z : Zz) (f : Fm) (E : Ej) (R : Kr) : Prop := xiload 1 (q_X12_carryOutAll_86 V) ls st z f E R
def q_X12_carryOutAll_84 (V : Nat → Nat) (ls : Ls) (st : List Value) (z : Zz) (f : Fm) (E : Ej) (R : Kr) : Prop := xaload 0 (q_X12_carryOutAll_85 V) ls st z f E R
def q_X12_carryOutAll_78 (V : Nat → Nat) (ls : Ls) (st : List Value) (z : Zz) (f : Fm) (E : Ej) (R : Kr) : Prop := xiinc 2 (nI 1) (xs 21) ls st z f E R
def q_X12_carryOutAll_77 (V : Nat → Nat) (ls : Ls) (st : List Value) (z : Zz) (f : Fm) (E : Ej) (R : Kr) : Prop := xpop (q_X12_carryOutAll_78 V) ls st z f E R
def q_X12_carryOutAll_74 (V : Nat → Nat) (ls : Ls) (st : List Value) (z : Zz) (f : Fm) (E : Ej) (R : Kr) : Prop := xcall 1 7 (Sp_X7_skipSemicolon V) 0 0 (q_X12_carryOutAll_77 V) ls st z f E R
def q_X12_carryOutAll_71 (V : Nat → Nat) (ls : Ls) (st : List Value) (z : Zz) (f : Fm) (E : Ej) (R : Kr) : Prop := xget 11 7 (q_X12_carryOutAll_74 V) ls st z f E R
def q_X12_carryOutAll_70 (V : Nat → Nat) (ls : Ls) (st : List Value) (z : Zz) (f : Fm) (E : Ej) (R : Kr) : Prop := xaload 0 (q_X12_carryOutAll_71 V) ls st z f E R
def q_X12_carryOutAll_69 (V : Nat → Nat) (ls : Ls) (st : List Value) (z : Zz) (f : Fm) (E : Ej) (R : Kr) : Prop := xret .int ls st z f E R
def q_X12_carryOutAll_66 (V : Nat → Nat) (ls : Ls) (st : List Value) (z : Zz) (f : Fm) (E : Ej) (R : Kr) : Prop := xcall 3 11 Sp_X11_refuse 0 0 (q_X12_carryOutAll_69 V) ls st z f E R
def q_X12_carryOutAll_65 (V : Nat → Nat) (ls : Ls) (st : List Value) (z : Zz) (f : Fm) (E : Ej) (R : Kr) : Prop := xiload 2 (q_X12_carryOutAll_66 V) ls st z f E R
def q_X12_carryOutAll_63 (V : Nat → Nat) (ls : Ls) (st : List Value) (z : Zz) (f : Fm) (E : Ej) (R : Kr) : Prop := xpush (.int (nI 7)) (q_X12_carryOutAll_65 V) ls st z f E R
def q_X12_carryOutAll_60 (V : Nat → Nat) (ls : Ls) (st : List Value) (z : Zz) (f : Fm) (E : Ej) (R : Kr) : Prop := xget 11 0 (q_X12_carryOutAll_63 V) ls st z f E R
def q_X12_carryOutAll_59 (V : Nat → Nat) (ls : Ls) (st : List Value) (z : Zz) (f : Fm) (E : Ej) (R : Kr) : Prop := xaload 0 (q_X12_carryOutAll_60 V) ls st z f E R
def q_X12_carryOutAll_56 (V : Nat → Nat) (ls : Ls) (st : List Value) (z : Zz) (f : Fm) (E : Ej) (R : Kr) : Prop := xcall 2 6 Sp_X6_takeBackNoted 0 0 (q_X12_carryOutAll_59 V) ls st z f E R
def q_X12_carryOutAll_53 (V : Nat → Nat) (ls : Ls) (st : List Value) (z : Zz) (f : Fm) (E : Ej) (R : Kr) : Prop := xget 11 1 (q_X12_carryOutAll_56 V) ls st z f E R
def q_X12_carryOutAll_52 (V : Nat → Nat) (ls : Ls) (st : List Value) (z : Zz) (f : Fm) (E : Ej) (R : Kr) : Prop := xaload 0 (q_X12_carryOutAll_53 V) ls st z f E R
def q_X12_carryOutAll_49 (V : Nat → Nat) (ls : Ls) (st : List Value) (z : Zz) (f : Fm) (E : Ej) (R : Kr) : Prop := xget 11 4 (q_X12_carryOutAll_52 V) ls st z f E R
def q_X12_carryOutAll_48 (V : Nat → Nat) (ls : Ls) (st : List Value) (z : Zz) (f : Fm) (E : Ej) (R : Kr) : Prop := xaload 0 (q_X12_carryOutAll_49 V) ls st z f E R
def q_X12_carryOutAll_45 (V : Nat → Nat) (ls : Ls) (st : List Value) (z : Zz) (f : Fm) (E : Ej) (R : Kr) : Prop := xif (fun x => 0 ≤ x) (q_X12_carryOutAll_70 V) (q_X12_carryOutAll_48 V) ls st z f E R
def q_X12_carryOutAll_42 (V : Nat → Nat) (ls : Ls) (st : List Value) (z : Zz) (f : Fm) (E : Ej) (R : Kr) : Prop := xcall 2 11 (Sp_X11_carryOut V) 0 0 (q_X12_carryOutAll_45 V) ls st z f E R
def q_X12_carryOutAll_39 (V : Nat → Nat) (ls : Ls) (st : List Value) (z : Zz) (f : Fm) (E : Ej) (R : Kr) : Prop := xget 11 7 (q_X12_carryOutAll_42 V) ls st z f E R
def q_X12_carryOutAll_38 (V : Nat → Nat) (ls : Ls) (st : List Value) (z : Zz) (f : Fm) (E : Ej) (R : Kr) : Prop := xaload 0 (q_X12_carryOutAll_39 V) ls st z f E R
def q_X12_carryOutAll_35 (V : Nat → Nat) (ls : Ls) (st : List Value) (z : Zz) (f : Fm) (E : Ej) (R : Kr) : Prop := xget 11 0 (q_X12_carryOutAll_38 V) ls st z f E R
def q_X12_carryOutAll_34 (V : Nat → Nat) (ls : Ls) (st : List Value) (z : Zz) (f : Fm) (E : Ej) (R : Kr) : Prop := xaload 0 (q_X12_carryOutAll_35 V) ls st z f E R
def q_X12_carryOutAll_33 (V : Nat → Nat) (ls : Ls) (st : List Value) (z : Zz) (f : Fm) (E : Ej) (R : Kr) : Prop := xpop (q_X12_carryOutAll_34 V) ls st z f E R
def q_X12_carryOutAll_30 (V : Nat → Nat) (ls : Ls) (st : List Value) (z : Zz) (f : Fm) (E : Ej) (R : Kr) : Prop := xcall 1 7 (Sp_X7_readOrder V) 0 0 (q_X12_carryOutAll_33 V) ls st z f E R
def q_X12_carryOutAll_27 (V : Nat → Nat) (ls : Ls) (st : List Value) (z : Zz) (f : Fm) (E : Ej) (R : Kr) : Prop := xget 11 7 (q_X12_carryOutAll_30 V) ls st z f E R
def q_X12_carryOutAll_26 (V : Nat → Nat) (ls : Ls) (st : List Value) (z : Zz) (f : Fm) (E : Ej) (R : Kr) : Prop := xaload 0 (q_X12_carryOutAll_27 V) ls st z f E R
def q_X12_carryOutAll_23 (V : Nat → Nat) (ls : Ls) (st : List Value) (z : Zz) (f : Fm) (E : Ej) (R : Kr) : Prop := xicmp (fun x y => y ≤ x) (q_X12_carryOutAll_84 V) (q_X12_carryOutAll_26 V) ls st z f E R
def q_X12_carryOutAll_22 (V : Nat → Nat) (ls : Ls) (st : List Value) (z : Zz) (f : Fm) (E : Ej) (R : Kr) : Prop := xiload 1 (q_X12_carryOutAll_23 V) ls st z f E R
def q_X12_carryOutAll_21 (V : Nat → Nat) (ls : Ls) (st : List Value) (z : Zz) (f : Fm) (E : Ej) (R : Kr) : Prop := xiload 2 (q_X12_carryOutAll_22 V) ls st z f E R
def q_X12_carryOutAll_20 (V : Nat → Nat) (ls : Ls) (st : List Value) (z : Zz) (f : Fm) (E : Ej) (R : Kr) : Prop := xistore 2 (xs 21) ls st z f E R
def q_X12_carryOutAll_19 (V : Nat → Nat) (ls : Ls) (st : List Value) (z : Zz) (f : Fm) (E : Ej) (R : Kr) : Prop := xpush (.int (nI 0)) (q_X12_carryOutAll_20 V) ls st z f E R
def q_X12_carryOutAll_16 (V : Nat → Nat) (ls : Ls) (st : List Value) (z : Zz) (f : Fm) (E : Ej) (R : Kr) : Prop := xput 6 1 .int (q_X12_carryOutAll_19 V) ls st z f E R
def q_X12_carryOutAll_15 (V : Nat → Nat) (ls : Ls) (st : List Value) (z : Zz) (f : Fm) (E : Ej) (R : Kr) : Prop := xpush (.int (nI 0)) (q_X12_carryOutAll_16 V) ls st z f E R
def q_X12_carryOutAll_12 (V : Nat → Nat) (ls : Ls) (st : List Value) (z : Zz) (f : Fm) (E : Ej) (R : Kr) : Prop := xget 11 7 (q_X12_carryOutAll_15 V) ls st z f E R
def q_X12_carryOutAll_11 (V : Nat → Nat) (ls : Ls) (st : List Value) (z : Zz) (f : Fm) (E : Ej) (R : Kr) : Prop := xaload 0 (q_X12_carryOutAll_12 V) ls st z f E R
def q_X12_carryOutAll_8 (V : Nat → Nat) (ls : Ls) (st : List Value) (z : Zz) (f : Fm) (E : Ej) (R : Kr) : Prop := xcall 2 6 Sp_X6_note 0 0 (q_X12_carryOutAll_11 V) ls st z f E R
def q_X12_carryOutAll_5 (V : Nat → Nat) (ls : Ls) (st : List Value) (z : Zz) (f : Fm) (E : Ej) (R : Kr) : Prop := xget 11 1 (q_X12_carryOutAll_8 V) ls st z f E R
def q_X12_carryOutAll_4 (V : Nat → Nat) (ls : Ls) (st : List Value) (z : Zz) (f : Fm) (E : Ej) (R : Kr) : Prop := xaload 0 (q_X12_carryOutAll_5 V) ls st z f E R
def q_X12_carryOutAll_1 (V : Nat → Nat) (ls : Ls) (st : List Value) (z : Zz) (f : Fm) (E : Ej) (R : Kr) : Prop := xget 11 4 (q_X12_carryOutAll_4 V) ls st z f E R
def q_X12_carryOutAll_0 (V : Nat → Nat) (ls : Ls) (st : List Value) (z : Zz) (f : Fm) (E : Ej) (R : Kr) : Prop := xaload 0 (q_X12_carryOutAll_1 V) ls st z f E R
set_option maxRecDepth 100000 in
theorem t_X12_carryOutAll {s0 : State} {D : va_G} {ids : Nat → ClassId} {V : Nat → Nat} {l : Launch} {K : Kr} {E : Ej} (G : GG s0 D ids V) (X : EnX s0 D ids l RX12 cX12_carryOutAll 3 (some .int) "carryOutAll" rm_X12_carryOutAll K E) : Sd E K 0 (q_X12_carryOutAll_0 V) ∧ Sd E K 21 (q_X12_carryOutAll_21 V) := by
  have h89 : Sd E K 89 (q_X12_carryOutAll_89 V) := sd_ret X (by decide +kernel : decode cX12_carryOutAll 89 = .ok (.ireturn, 1))
  have h86 : Sd E K 86 (q_X12_carryOutAll_86 V) := sd_callV (n := 1) (ci := 11) X (ct_X12_kept G) (by decide +kernel : decode cX12_carryOutAll 86 = .ok (.invokevirtual 81, 3)) wd_451 wd_448 wd_450 wd_0 wd_24 (by decide +kernel) (Or.inl ⟨by decide, _, _, rfl⟩) ⟨Nat.le_of_ble_eq_true rfl, Nat.le_of_ble_eq_true rfl⟩ h89
  have h85 : Sd E K 85 (q_X12_carryOutAll_85 V) := sd_iload_n X (by decide +kernel : decode cX12_carryOutAll 85 = .ok (.iload_n 1, 1)) rfl h86
  have h84 : Sd E K 84 (q_X12_carryOutAll_84 V) := sd_aload_n X (by decide +kernel : decode cX12_carryOutAll 84 = .ok (.aload_n 0, 1)) rfl h85
  have h81 : Sd E K 81 (xs 21) := sd_goto X (by decide +kernel : decode cX12_carryOutAll 81 = .ok (.goto (-60), 3)) (by decide) (sd_s 21)
  have h78 : Sd E K 78 (q_X12_carryOutAll_78 V) := sd_iinc X (by decide +kernel : decode cX12_carryOutAll 78 = .ok (.iinc 2 1, 3)) (by decide +kernel) h81
  have h77 : Sd E K 77 (q_X12_carryOutAll_77 V) := sd_pop X (by decide +kernel : decode cX12_carryOutAll 77 = .ok (.pop, 1)) h78
  have h74 : Sd E K 74 (q_X12_carryOutAll_74 V) := sd_callV (n := 0) (ci := 6) X (ct_X7_skipSemicolon G) (by decide +kernel : decode cX12_carryOutAll 74 = .ok (.invokevirtual 319, 3)) wd_696 wd_741 wd_694 wd_695 wd_34 (by decide +kernel) (Or.inl ⟨by decide, _, _, rfl⟩) ⟨Nat.le_of_ble_eq_true rfl, Nat.le_of_ble_eq_true rfl⟩ h77
  have h71 : Sd E K 71 (q_X12_carryOutAll_71 V) := sd_get X (by decide +kernel : decode cX12_carryOutAll 71 = .ok (.getfield 54, 3)) ok_X12 (Nat.le_of_ble_eq_true rfl) wd_381 h74
  have h70 : Sd E K 70 (q_X12_carryOutAll_70 V) := sd_aload_n X (by decide +kernel : decode cX12_carryOutAll 70 = .ok (.aload_n 0, 1)) rfl h71
  have h69 : Sd E K 69 (q_X12_carryOutAll_69 V) := sd_ret X (by decide +kernel : decode cX12_carryOutAll 69 = .ok (.ireturn, 1))
  have h66 : Sd E K 66 (q_X12_carryOutAll_66 V) := sd_callV (n := 2) (ci := 10) X (ct_X11_refuse G) (by decide +kernel : decode cX12_carryOutAll 66 = .ok (.invokevirtual 204, 3)) wd_447 wd_740 wd_445 wd_446 wd_25 (by decide +kernel) (Or.inl ⟨by decide, _, _, rfl⟩) ⟨Nat.le_of_ble_eq_true rfl, Nat.le_of_ble_eq_true rfl⟩ h69
  have h65 : Sd E K 65 (q_X12_carryOutAll_65 V) := sd_iload_n X (by decide +kernel : decode cX12_carryOutAll 65 = .ok (.iload_n 2, 1)) rfl h66
  have h63 : Sd E K 63 (q_X12_carryOutAll_63 V) := sd_bipush X (by decide +kernel : decode cX12_carryOutAll 63 = .ok (.bipush 7, 2)) (by decide +kernel) h65
  have h60 : Sd E K 60 (q_X12_carryOutAll_60 V) := sd_get X (by decide +kernel : decode cX12_carryOutAll 60 = .ok (.getfield 10, 3)) ok_X12 (Nat.le_of_ble_eq_true rfl) wd_374 h63
  have h59 : Sd E K 59 (q_X12_carryOutAll_59 V) := sd_aload_n X (by decide +kernel : decode cX12_carryOutAll 59 = .ok (.aload_n 0, 1)) rfl h60
  have h56 : Sd E K 56 (q_X12_carryOutAll_56 V) := sd_callV (n := 1) (ci := 5) X (ct_X6_takeBackNoted G) (by decide +kernel : decode cX12_carryOutAll 56 = .ok (.invokevirtual 316, 3)) wd_739 wd_736 wd_737 wd_738 wd_31 (by decide +kernel) (Or.inl ⟨by decide, _, _, rfl⟩) ⟨Nat.le_of_ble_eq_true rfl, Nat.le_of_ble_eq_true rfl⟩ h59
  have h53 : Sd E K 53 (q_X12_carryOutAll_53 V) := sd_get X (by decide +kernel : decode cX12_carryOutAll 53 = .ok (.getfield 20, 3)) ok_X12 (Nat.le_of_ble_eq_true rfl) wd_375 h56
  have h52 : Sd E K 52 (q_X12_carryOutAll_52 V) := sd_aload_n X (by decide +kernel : decode cX12_carryOutAll 52 = .ok (.aload_n 0, 1)) rfl h53
  have h49 : Sd E K 49 (q_X12_carryOutAll_49 V) := sd_get X (by decide +kernel : decode cX12_carryOutAll 49 = .ok (.getfield 33, 3)) ok_X12 (Nat.le_of_ble_eq_true rfl) wd_378 h52
  have h48 : Sd E K 48 (q_X12_carryOutAll_48 V) := sd_aload_n X (by decide +kernel : decode cX12_carryOutAll 48 = .ok (.aload_n 0, 1)) rfl h49
  have h45 : Sd E K 45 (q_X12_carryOutAll_45 V) := sd_if_ge X (by decide +kernel : decode cX12_carryOutAll 45 = .ok (.ifCond .ge 25, 3)) (by decide) h70 h48
  have h42 : Sd E K 42 (q_X12_carryOutAll_42 V) := sd_callV (n := 1) (ci := 10) X (ct_X11_carryOut G) (by decide +kernel : decode cX12_carryOutAll 42 = .ok (.invokevirtual 312, 3)) wd_705 wd_702 wd_703 wd_704 wd_25 (by decide +kernel) (Or.inl ⟨by decide, _, _, rfl⟩) ⟨Nat.le_of_ble_eq_true rfl, Nat.le_of_ble_eq_true rfl⟩ h45
  have h39 : Sd E K 39 (q_X12_carryOutAll_39 V) := sd_get X (by decide +kernel : decode cX12_carryOutAll 39 = .ok (.getfield 54, 3)) ok_X12 (Nat.le_of_ble_eq_true rfl) wd_381 h42
  have h38 : Sd E K 38 (q_X12_carryOutAll_38 V) := sd_aload_n X (by decide +kernel : decode cX12_carryOutAll 38 = .ok (.aload_n 0, 1)) rfl h39
  have h35 : Sd E K 35 (q_X12_carryOutAll_35 V) := sd_get X (by decide +kernel : decode cX12_carryOutAll 35 = .ok (.getfield 10, 3)) ok_X12 (Nat.le_of_ble_eq_true rfl) wd_374 h38
  have h34 : Sd E K 34 (q_X12_carryOutAll_34 V) := sd_aload_n X (by decide +kernel : decode cX12_carryOutAll 34 = .ok (.aload_n 0, 1)) rfl h35
  have h33 : Sd E K 33 (q_X12_carryOutAll_33 V) := sd_pop X (by decide +kernel : decode cX12_carryOutAll 33 = .ok (.pop, 1)) h34
  have h30 : Sd E K 30 (q_X12_carryOutAll_30 V) := sd_callV (n := 0) (ci := 6) X (ct_X7_readOrder G) (by decide +kernel : decode cX12_carryOutAll 30 = .ok (.invokevirtual 308, 3)) wd_602 wd_701 wd_600 wd_601 wd_34 (by decide +kernel) (Or.inl ⟨by decide, _, _, rfl⟩) ⟨Nat.le_of_ble_eq_true rfl, Nat.le_of_ble_eq_true rfl⟩ h33
  have h27 : Sd E K 27 (q_X12_carryOutAll_27 V) := sd_get X (by decide +kernel : decode cX12_carryOutAll 27 = .ok (.getfield 54, 3)) ok_X12 (Nat.le_of_ble_eq_true rfl) wd_381 h30
  have h26 : Sd E K 26 (q_X12_carryOutAll_26 V) := sd_aload_n X (by decide +kernel : decode cX12_carryOutAll 26 = .ok (.aload_n 0, 1)) rfl h27
  have h23 : Sd E K 23 (q_X12_carryOutAll_23 V) := sd_icmp_ge X (by decide +kernel : decode cX12_carryOutAll 23 = .ok (.if_icmp .ge 61, 3)) (by decide) h84 h26
  have h22 : Sd E K 22 (q_X12_carryOutAll_22 V) := sd_iload_n X (by decide +kernel : decode cX12_carryOutAll 22 = .ok (.iload_n 1, 1)) rfl h23
  have h21 : Sd E K 21 (q_X12_carryOutAll_21 V) := sd_iload_n X (by decide +kernel : decode cX12_carryOutAll 21 = .ok (.iload_n 2, 1)) rfl h22
  have h20 : Sd E K 20 (q_X12_carryOutAll_20 V) := sd_istore_n X (by decide +kernel : decode cX12_carryOutAll 20 = .ok (.istore_n 2, 1)) rfl (sd_s 21)
  have h19 : Sd E K 19 (q_X12_carryOutAll_19 V) := sd_iconst X (by decide +kernel : decode cX12_carryOutAll 19 = .ok (.iconst 0, 1)) (by decide +kernel) h20
  have h16 : Sd E K 16 (q_X12_carryOutAll_16 V) := sd_put X (by decide +kernel : decode cX12_carryOutAll 16 = .ok (.putfield 234, 3)) ok_X7 (Nat.le_of_ble_eq_true rfl) rfl rfl wd_347 h19
  have h15 : Sd E K 15 (q_X12_carryOutAll_15 V) := sd_iconst X (by decide +kernel : decode cX12_carryOutAll 15 = .ok (.iconst 0, 1)) (by decide +kernel) h16
  have h12 : Sd E K 12 (q_X12_carryOutAll_12 V) := sd_get X (by decide +kernel : decode cX12_carryOutAll 12 = .ok (.getfield 54, 3)) ok_X12 (Nat.le_of_ble_eq_true rfl) wd_381 h15
  have h11 : Sd E K 11 (q_X12_carryOutAll_11 V) := sd_aload_n X (by decide +kernel : decode cX12_carryOutAll 11 = .ok (.aload_n 0, 1)) rfl h12
  have h8 : Sd E K 8 (q_X12_carryOutAll_8 V) := sd_callV (n := 1) (ci := 5) X (ct_X6_note G) (by decide +kernel : decode cX12_carryOutAll 8 = .ok (.invokevirtual 73, 3)) wd_415 wd_412 wd_413 wd_414 wd_31 (by decide +kernel) (Or.inl ⟨by decide, _, _, rfl⟩) ⟨Nat.le_of_ble_eq_true rfl, Nat.le_of_ble_eq_true rfl⟩ h11
  have h5 : Sd E K 5 (q_X12_carryOutAll_5 V) := sd_get X (by decide +kernel : decode cX12_carryOutAll 5 = .ok (.getfield 20, 3)) ok_X12 (Nat.le_of_ble_eq_true rfl) wd_375 h8
  have h4 : Sd E K 4 (q_X12_carryOutAll_4 V) := sd_aload_n X (by decide +kernel : decode cX12_carryOutAll 4 = .ok (.aload_n 0, 1)) rfl h5
  have h1 : Sd E K 1 (q_X12_carryOutAll_1 V) := sd_get X (by decide +kernel : decode cX12_carryOutAll 1 = .ok (.getfield 33, 3)) ok_X12 (Nat.le_of_ble_eq_true rfl) wd_378 h4
  have h0 : Sd E K 0 (q_X12_carryOutAll_0 V) := sd_aload_n X (by decide +kernel : decode cX12_carryOutAll 0 = .ok (.aload_n 0, 1)) rfl h1
  exact ⟨h0, h21⟩
set_option maxHeartbeats 4000000 in
set_option maxRecDepth 100000 in
theorem ct_X12_carryOutAll {s0 : State} {D : va_G} {ids : Nat → ClassId} {V : Nat → Nat} {l : Launch} (G : GG s0 D ids V) : CT s0 D ids l yX12_carryOutAll cX12_carryOutAll 3 (some .int) rm_X12_carryOutAll (Sp_X12_carryOutAll V) := CT.of (by decide +kernel) G.k (by
  rintro as z f K E ⟨n, b, M, r, d, L, W, T, Ln, Mm, Mt, Ms, rows, fr, rs, tv, lv, hs, B, rfl, hn, hx, h4, hI, hK1, hK2⟩ X
  obtain ⟨t0, t21⟩ := t_X12_carryOutAll G X
  refine ⟨Nat.le_of_ble_eq_true rfl, by simp [Value.category], t0 _ _ _ _ ?_⟩
  obtain ⟨h1, h2, h3, h3', h5, h6, -, -, h9, h10, -⟩ := id hx
  unfold oB at h1
  simp (disch := omega) only [q_X12_carryOutAll_0, q_X12_carryOutAll_1, q_X12_carryOutAll_4, q_X12_carryOutAll_5, q_X12_carryOutAll_8, q_X12_carryOutAll_11, q_X12_carryOutAll_12, q_X12_carryOutAll_15, q_X12_carryOutAll_16, q_X12_carryOutAll_19, q_X12_carryOutAll_20, q_X12_carryOutAll_21, q_X12_carryOutAll_22, q_X12_carryOutAll_23, q_X12_carryOutAll_26, q_X12_carryOutAll_27, q_X12_carryOutAll_30, q_X12_carryOutAll_33, q_X12_carryOutAll_34, q_X12_carryOutAll_35, q_X12_carryOutAll_38, q_X12_carryOutAll_39, q_X12_carryOutAll_42, q_X12_carryOutAll_45, q_X12_carryOutAll_48, q_X12_carryOutAll_49, q_X12_carryOutAll_52, q_X12_carryOutAll_53, q_X12_carryOutAll_56, q_X12_carryOutAll_59, q_X12_carryOutAll_60, q_X12_carryOutAll_63, q_X12_carryOutAll_65, q_X12_carryOutAll_66, q_X12_carryOutAll_69, q_X12_carryOutAll_70, q_X12_carryOutAll_71, q_X12_carryOutAll_74, q_X12_carryOutAll_77, q_X12_carryOutAll_78, q_X12_carryOutAll_84, q_X12_carryOutAll_85, q_X12_carryOutAll_86, q_X12_carryOutAll_89, xpush, xiload, xaload, xlload, xfload, xdload, lkill, xistore, xastore, xfstore, xlstore, xdstore, xiinc, xbin, xdiv, xun, xlbin, xi2l, xi2f, xi2d, xlcmp, xfcmp, xdcmp, xfdiv, xddiv, c1, xdup, xpop, xdup_x1, xdup2, xif, xicmp, xtab, xtabL, xget, xput, xald, xast, xalen, xnew, xnewa, c1s, recvOk, xcall, kont, xret, xlret, xfret, xdret, xaret, xvret, xs, xnewq, xastq, xcopy, xcopyF, xobj, xmax, xmin, xdead, xpushq, xmna, ls0, List.map_cons, List.map_nil, List.length_cons, List.length_nil, List.replicate, List.append_nil, List.cons_append, List.nil_append, List.getElem?_cons_zero, List.getElem?_cons_succ, List.getElem?_nil, List.set_cons_zero, List.set_cons_succ, List.take_succ_cons, List.take_zero, List.drop_succ_cons, List.drop_zero, List.reverse_cons, List.reverse_nil, List.sum_cons, List.sum_nil, Value.category, Option.toList_some, Option.toList_none, Nat.reduceAdd, Nat.reduceSub, Nat.reduceLT, Nat.reduceLeDiff, Nat.zero_add, Nat.le_refl, true_and, and_true, Nat.sub_zero, Nat.zero_lt_succ, Nat.zero_le, Nat.not_lt_zero, Nat.reduceEqDiff, Nat.one_ne_zero, nI_toInt, Int.reduceEq, Int.reduceAdd, Int.reduceLT, Int.reduceLE, Int.cast_ofNat_Int, reduceIte, or_false, false_or, eq_self, or_true, true_or, or_self, nI_clamp, vp_in_nI, nI_ltI, nI_leI, nI_eq, nI_add, nI_zero9, nI_nlt0, nI_le0, nI_lt0, arG, va_rf, not_false_eq_true, not_true_eq_false, false_implies, true_implies, implies_true, ne_eq, okv_int, okv_z0, okv_z1, okv_zN, okv_ref, okv_arr, okv_null, vn_z0, vn_z1, vn_zN, nr_int, nr_z, va_up_self, up_fr, rw1_j, rw1_up, h1, h5.1]
  refine ⟨b + 205, b + 2, rows, fr, _, M, rfl, h6.1, h5, h2.2.1, hI.1.1.1, by omega, fun f1 g1 fr1 => ?_⟩
  have b1 : f1 b = f b := fr1 b (by omega)
  have r1 : f1 (b + 709) = f (b + 709) := fr1 _ (by omega)
  unfold isRr at h9
  simp (disch := omega) only [q_X12_carryOutAll_0, q_X12_carryOutAll_1, q_X12_carryOutAll_4, q_X12_carryOutAll_5, q_X12_carryOutAll_8, q_X12_carryOutAll_11, q_X12_carryOutAll_12, q_X12_carryOutAll_15, q_X12_carryOutAll_16, q_X12_carryOutAll_19, q_X12_carryOutAll_20, q_X12_carryOutAll_21, q_X12_carryOutAll_22, q_X12_carryOutAll_23, q_X12_carryOutAll_26, q_X12_carryOutAll_27, q_X12_carryOutAll_30, q_X12_carryOutAll_33, q_X12_carryOutAll_34, q_X12_carryOutAll_35, q_X12_carryOutAll_38, q_X12_carryOutAll_39, q_X12_carryOutAll_42, q_X12_carryOutAll_45, q_X12_carryOutAll_48, q_X12_carryOutAll_49, q_X12_carryOutAll_52, q_X12_carryOutAll_53, q_X12_carryOutAll_56, q_X12_carryOutAll_59, q_X12_carryOutAll_60, q_X12_carryOutAll_63, q_X12_carryOutAll_65, q_X12_carryOutAll_66, q_X12_carryOutAll_69, q_X12_carryOutAll_70, q_X12_carryOutAll_71, q_X12_carryOutAll_74, q_X12_carryOutAll_77, q_X12_carryOutAll_78, q_X12_carryOutAll_84, q_X12_carryOutAll_85, q_X12_carryOutAll_86, q_X12_carryOutAll_89, xpush, xiload, xaload, xlload, xfload, xdload, lkill, xistore, xastore, xfstore, xlstore, xdstore, xiinc, xbin, xdiv, xun, xlbin, xi2l, xi2f, xi2d, xlcmp, xfcmp, xdcmp, xfdiv, xddiv, c1, xdup, xpop, xdup_x1, xdup2, xif, xicmp, xtab, xtabL, xget, xput, xald, xast, xalen, xnew, xnewa, c1s, recvOk, xcall, kont, xret, xlret, xfret, xdret, xaret, xvret, xs, xnewq, xastq, xcopy, xcopyF, xobj, xmax, xmin, xdead, xpushq, xmna, ls0, List.map_cons, List.map_nil, List.length_cons, List.length_nil, List.replicate, List.append_nil, List.cons_append, List.nil_append, List.getElem?_cons_zero, List.getElem?_cons_succ, List.getElem?_nil, List.set_cons_zero, List.set_cons_succ, List.take_succ_cons, List.take_zero, List.drop_succ_cons, List.drop_zero, List.reverse_cons, List.reverse_nil, List.sum_cons, List.sum_nil, Value.category, Option.toList_some, Option.toList_none, Nat.reduceAdd, Nat.reduceSub, Nat.reduceLT, Nat.reduceLeDiff, Nat.zero_add, Nat.le_refl, true_and, and_true, Nat.sub_zero, Nat.zero_lt_succ, Nat.zero_le, Nat.not_lt_zero, Nat.reduceEqDiff, Nat.one_ne_zero, nI_toInt, Int.reduceEq, Int.reduceAdd, Int.reduceLT, Int.reduceLE, Int.cast_ofNat_Int, reduceIte, or_false, false_or, eq_self, or_true, true_or, or_self, nI_clamp, vp_in_nI, nI_ltI, nI_leI, nI_eq, nI_add, nI_zero9, nI_nlt0, nI_le0, nI_lt0, arG, va_rf, not_false_eq_true, not_true_eq_false, false_implies, true_implies, implies_true, ne_eq, okv_int, okv_z0, okv_z1, okv_zN, okv_ref, okv_arr, okv_null, vn_z0, vn_z1, vn_zN, nr_int, nr_z, va_up_self, up_fr, rw1_j, rw1_up, b1, h1, r1, h9]
  have hxn : isOx V f1 b z M r d L W T Ln Mm Mt Ms (pup rows fr M) fr rs tv lv hs := hx.wp (h2.fr (fun q _ _ => fr1 q (by omega))) g1 h6.note (fun q q1 q2 => fr1 q (by omega))
  have key := dnR (N := n) (R := fun i f' => ∃ M' r' d' Mm' rs', isOx V f' b z M' r' d' L W T Ln Mm' Mt Ms (pup rows fr M) fr rs' tv lv hs ∧ rs' 4 < 100 ∧ rs' 0 ≤ T.length ∧ Inv (B + 30 * i) M' ∧ ∀ q, q < b → f' q = f q) (P := fun i f' => E 21 [some (.ref b), some (.int (nI n)), some (.int (nI i))] [] (z, 0, 0) f') ?_ ?_ 0 (by omega) _ ⟨M, r, d, Mm, hup rs 0 0, hxn.rd (va_up_self _ _ _) h10 (fun q hq => up_fr hq), h4, Nat.zero_le _, hI, fun q hq => (up_fr (by omega)).trans (fr1 q (by omega))⟩
  · exact key
  · rintro f2 ⟨M2, r2, d2, Mm2, rs2, hx2, -, -, hI2, fr2⟩
    obtain ⟨k1, k2, k3, k3', k5, k6, -⟩ := id hx2
    have hL8 := k6.2.1
    unfold oB at k1
    refine t21 _ _ _ _ ?_
    simp (disch := omega) only [q_X12_carryOutAll_0, q_X12_carryOutAll_1, q_X12_carryOutAll_4, q_X12_carryOutAll_5, q_X12_carryOutAll_8, q_X12_carryOutAll_11, q_X12_carryOutAll_12, q_X12_carryOutAll_15, q_X12_carryOutAll_16, q_X12_carryOutAll_19, q_X12_carryOutAll_20, q_X12_carryOutAll_21, q_X12_carryOutAll_22, q_X12_carryOutAll_23, q_X12_carryOutAll_26, q_X12_carryOutAll_27, q_X12_carryOutAll_30, q_X12_carryOutAll_33, q_X12_carryOutAll_34, q_X12_carryOutAll_35, q_X12_carryOutAll_38, q_X12_carryOutAll_39, q_X12_carryOutAll_42, q_X12_carryOutAll_45, q_X12_carryOutAll_48, q_X12_carryOutAll_49, q_X12_carryOutAll_52, q_X12_carryOutAll_53, q_X12_carryOutAll_56, q_X12_carryOutAll_59, q_X12_carryOutAll_60, q_X12_carryOutAll_63, q_X12_carryOutAll_65, q_X12_carryOutAll_66, q_X12_carryOutAll_69, q_X12_carryOutAll_70, q_X12_carryOutAll_71, q_X12_carryOutAll_74, q_X12_carryOutAll_77, q_X12_carryOutAll_78, q_X12_carryOutAll_84, q_X12_carryOutAll_85, q_X12_carryOutAll_86, q_X12_carryOutAll_89, xpush, xiload, xaload, xlload, xfload, xdload, lkill, xistore, xastore, xfstore, xlstore, xdstore, xiinc, xbin, xdiv, xun, xlbin, xi2l, xi2f, xi2d, xlcmp, xfcmp, xdcmp, xfdiv, xddiv, c1, xdup, xpop, xdup_x1, xdup2, xif, xicmp, xtab, xtabL, xget, xput, xald, xast, xalen, xnew, xnewa, c1s, recvOk, xcall, kont, xret, xlret, xfret, xdret, xaret, xvret, xs, xnewq, xastq, xcopy, xcopyF, xobj, xmax, xmin, xdead, xpushq, xmna, ls0, List.map_cons, List.map_nil, List.length_cons, List.length_nil, List.replicate, List.append_nil, List.cons_append, List.nil_append, List.getElem?_cons_zero, List.getElem?_cons_succ, List.getElem?_nil, List.set_cons_zero, List.set_cons_succ, List.take_succ_cons, List.take_zero, List.drop_succ_cons, List.drop_zero, List.reverse_cons, List.reverse_nil, List.sum_cons, List.sum_nil, Value.category, Option.toList_some, Option.toList_none, Nat.reduceAdd, Nat.reduceSub, Nat.reduceLT, Nat.reduceLeDiff, Nat.zero_add, Nat.le_refl, true_and, and_true, Nat.sub_zero, Nat.zero_lt_succ, Nat.zero_le, Nat.not_lt_zero, Nat.reduceEqDiff, Nat.one_ne_zero, nI_toInt, Int.reduceEq, Int.reduceAdd, Int.reduceLT, Int.reduceLE, Int.cast_ofNat_Int, reduceIte, or_false, false_or, eq_self, or_true, true_or, or_self, nI_clamp, vp_in_nI, nI_ltI, nI_leI, nI_eq, nI_add, nI_zero9, nI_nlt0, nI_le0, nI_lt0, arG, va_rf, not_false_eq_true, not_true_eq_false, false_implies, true_implies, implies_true, ne_eq, okv_int, okv_z0, okv_z1, okv_zN, okv_ref, okv_arr, okv_null, vn_z0, vn_z1, vn_zN, nr_int, nr_z, va_up_self, up_fr, rw1_j, rw1_up, k1]
    refine ⟨b, hs, nI n, pup rows fr M, fr, L.length, rfl, hx2.1, k6.1, by omega, k5, fun hneg => absurd hneg (Int32.not_lt.mpr (nn9 (by omega))), fun hpos f3 g3 fr3 => ?_⟩
    simp (disch := omega) only [q_X12_carryOutAll_0, q_X12_carryOutAll_1, q_X12_carryOutAll_4, q_X12_carryOutAll_5, q_X12_carryOutAll_8, q_X12_carryOutAll_11, q_X12_carryOutAll_12, q_X12_carryOutAll_15, q_X12_carryOutAll_16, q_X12_carryOutAll_19, q_X12_carryOutAll_20, q_X12_carryOutAll_21, q_X12_carryOutAll_22, q_X12_carryOutAll_23, q_X12_carryOutAll_26, q_X12_carryOutAll_27, q_X12_carryOutAll_30, q_X12_carryOutAll_33, q_X12_carryOutAll_34, q_X12_carryOutAll_35, q_X12_carryOutAll_38, q_X12_carryOutAll_39, q_X12_carryOutAll_42, q_X12_carryOutAll_45, q_X12_carryOutAll_48, q_X12_carryOutAll_49, q_X12_carryOutAll_52, q_X12_carryOutAll_53, q_X12_carryOutAll_56, q_X12_carryOutAll_59, q_X12_carryOutAll_60, q_X12_carryOutAll_63, q_X12_carryOutAll_65, q_X12_carryOutAll_66, q_X12_carryOutAll_69, q_X12_carryOutAll_70, q_X12_carryOutAll_71, q_X12_carryOutAll_74, q_X12_carryOutAll_77, q_X12_carryOutAll_78, q_X12_carryOutAll_84, q_X12_carryOutAll_85, q_X12_carryOutAll_86, q_X12_carryOutAll_89, xpush, xiload, xaload, xlload, xfload, xdload, lkill, xistore, xastore, xfstore, xlstore, xdstore, xiinc, xbin, xdiv, xun, xlbin, xi2l, xi2f, xi2d, xlcmp, xfcmp, xdcmp, xfdiv, xddiv, c1, xdup, xpop, xdup_x1, xdup2, xif, xicmp, xtab, xtabL, xget, xput, xald, xast, xalen, xnew, xnewa, c1s, recvOk, xcall, kont, xret, xlret, xfret, xdret, xaret, xvret, xs, xnewq, xastq, xcopy, xcopyF, xobj, xmax, xmin, xdead, xpushq, xmna, ls0, List.map_cons, List.map_nil, List.length_cons, List.length_nil, List.replicate, List.append_nil, List.cons_append, List.nil_append, List.getElem?_cons_zero, List.getElem?_cons_succ, List.getElem?_nil, List.set_cons_zero, List.set_cons_succ, List.take_succ_cons, List.take_zero, List.drop_succ_cons, List.drop_zero, List.reverse_cons, List.reverse_nil, List.sum_cons, List.sum_nil, Value.category, Option.toList_some, Option.toList_none, Nat.reduceAdd, Nat.reduceSub, Nat.reduceLT, Nat.reduceLeDiff, Nat.zero_add, Nat.le_refl, true_and, and_true, Nat.sub_zero, Nat.zero_lt_succ, Nat.zero_le, Nat.not_lt_zero, Nat.reduceEqDiff, Nat.one_ne_zero, nI_toInt, Int.reduceEq, Int.reduceAdd, Int.reduceLT, Int.reduceLE, Int.cast_ofNat_Int, reduceIte, or_false, false_or, eq_self, or_true, true_or, or_self, nI_clamp, vp_in_nI, nI_ltI, nI_leI, nI_eq, nI_add, nI_zero9, nI_nlt0, nI_le0, nI_lt0, arG, va_rf, not_false_eq_true, not_true_eq_false, false_implies, true_implies, implies_true, ne_eq, okv_int, okv_z0, okv_z1, okv_zN, okv_ref, okv_arr, okv_null, vn_z0, vn_z1, vn_zN, nr_int, nr_z, va_up_self, up_fr, rw1_j, rw1_up]
    refine hK2 f3 M2 r2 d2 Mm2 (pup rows fr M) ((fr + 1) % 9) rs2 hI2 (hx2.wp (k2.fr (fun q _ _ => fr3 q (by omega))) (by rw [take_len hL8]; exact g3) h6.keep (fun q q1 q2 => fr3 q (by omega))) (fun q hq => (fr3 q (by omega)).trans (fr2 q hq))
  · rintro i hi ih f2 ⟨M2, r2, d2, Mm2, rs2, hx2, h42, h02, hI2, fr2⟩
    obtain ⟨k1, k2, k3, k3', k5, k6, -, -, k9, k10, -⟩ := id hx2
    unfold oB at k1
    have k9' := k9
    unfold isRr at k9'
    refine t21 _ _ _ _ ?_
    simp (disch := omega) only [q_X12_carryOutAll_0, q_X12_carryOutAll_1, q_X12_carryOutAll_4, q_X12_carryOutAll_5, q_X12_carryOutAll_8, q_X12_carryOutAll_11, q_X12_carryOutAll_12, q_X12_carryOutAll_15, q_X12_carryOutAll_16, q_X12_carryOutAll_19, q_X12_carryOutAll_20, q_X12_carryOutAll_21, q_X12_carryOutAll_22, q_X12_carryOutAll_23, q_X12_carryOutAll_26, q_X12_carryOutAll_27, q_X12_carryOutAll_30, q_X12_carryOutAll_33, q_X12_carryOutAll_34, q_X12_carryOutAll_35, q_X12_carryOutAll_38, q_X12_carryOutAll_39, q_X12_carryOutAll_42, q_X12_carryOutAll_45, q_X12_carryOutAll_48, q_X12_carryOutAll_49, q_X12_carryOutAll_52, q_X12_carryOutAll_53, q_X12_carryOutAll_56, q_X12_carryOutAll_59, q_X12_carryOutAll_60, q_X12_carryOutAll_63, q_X12_carryOutAll_65, q_X12_carryOutAll_66, q_X12_carryOutAll_69, q_X12_carryOutAll_70, q_X12_carryOutAll_71, q_X12_carryOutAll_74, q_X12_carryOutAll_77, q_X12_carryOutAll_78, q_X12_carryOutAll_84, q_X12_carryOutAll_85, q_X12_carryOutAll_86, q_X12_carryOutAll_89, xpush, xiload, xaload, xlload, xfload, xdload, lkill, xistore, xastore, xfstore, xlstore, xdstore, xiinc, xbin, xdiv, xun, xlbin, xi2l, xi2f, xi2d, xlcmp, xfcmp, xdcmp, xfdiv, xddiv, c1, xdup, xpop, xdup_x1, xdup2, xif, xicmp, xtab, xtabL, xget, xput, xald, xast, xalen, xnew, xnewa, c1s, recvOk, xcall, kont, xret, xlret, xfret, xdret, xaret, xvret, xs, xnewq, xastq, xcopy, xcopyF, xobj, xmax, xmin, xdead, xpushq, xmna, ls0, List.map_cons, List.map_nil, List.length_cons, List.length_nil, List.replicate, List.append_nil, List.cons_append, List.nil_append, List.getElem?_cons_zero, List.getElem?_cons_succ, List.getElem?_nil, List.set_cons_zero, List.set_cons_succ, List.take_succ_cons, List.take_zero, List.drop_succ_cons, List.drop_zero, List.reverse_cons, List.reverse_nil, List.sum_cons, List.sum_nil, Value.category, Option.toList_some, Option.toList_none, Nat.reduceAdd, Nat.reduceSub, Nat.reduceLT, Nat.reduceLeDiff, Nat.zero_add, Nat.le_refl, true_and, and_true, Nat.sub_zero, Nat.zero_lt_succ, Nat.zero_le, Nat.not_lt_zero, Nat.reduceEqDiff, Nat.one_ne_zero, nI_toInt, Int.reduceEq, Int.reduceAdd, Int.reduceLT, Int.reduceLE, Int.cast_ofNat_Int, reduceIte, or_false, false_or, eq_self, or_true, true_or, or_self, nI_clamp, vp_in_nI, nI_ltI, nI_leI, nI_eq, nI_add, nI_zero9, nI_nlt0, nI_le0, nI_lt0, arG, va_rf, not_false_eq_true, not_true_eq_false, false_implies, true_implies, implies_true, ne_eq, okv_int, okv_z0, okv_z1, okv_zN, okv_ref, okv_arr, okv_null, vn_z0, vn_z1, vn_zN, nr_int, nr_z, va_up_self, up_fr, rw1_j, rw1_up, k1, k9', Nat.not_le.mpr hi]
    have hX2 := hx2.rX h02
    have ho := rOr_ok hX2.2.1
    refine ⟨b + 709, b + 710, tv, b + 714, z, T, rs2, rfl, hX2, fun f3 g3 fr3 => ?_⟩
    have hx3 := hx2.rd g3 ho.1.2 fr3
    have h43 := rOr_4' (T := T) h42
    obtain ⟨l1, l2, l3, l3', l5, l6, -, -, l9, l10, -, -, -, l14, -⟩ := id hx3
    have l1' := l1
    unfold oB at l1'
    have l9' := l9
    unfold isRr at l9'
    simp (disch := omega) only [q_X12_carryOutAll_0, q_X12_carryOutAll_1, q_X12_carryOutAll_4, q_X12_carryOutAll_5, q_X12_carryOutAll_8, q_X12_carryOutAll_11, q_X12_carryOutAll_12, q_X12_carryOutAll_15, q_X12_carryOutAll_16, q_X12_carryOutAll_19, q_X12_carryOutAll_20, q_X12_carryOutAll_21, q_X12_carryOutAll_22, q_X12_carryOutAll_23, q_X12_carryOutAll_26, q_X12_carryOutAll_27, q_X12_carryOutAll_30, q_X12_carryOutAll_33, q_X12_carryOutAll_34, q_X12_carryOutAll_35, q_X12_carryOutAll_38, q_X12_carryOutAll_39, q_X12_carryOutAll_42, q_X12_carryOutAll_45, q_X12_carryOutAll_48, q_X12_carryOutAll_49, q_X12_carryOutAll_52, q_X12_carryOutAll_53, q_X12_carryOutAll_56, q_X12_carryOutAll_59, q_X12_carryOutAll_60, q_X12_carryOutAll_63, q_X12_carryOutAll_65, q_X12_carryOutAll_66, q_X12_carryOutAll_69, q_X12_carryOutAll_70, q_X12_carryOutAll_71, q_X12_carryOutAll_74, q_X12_carryOutAll_77, q_X12_carryOutAll_78, q_X12_carryOutAll_84, q_X12_carryOutAll_85, q_X12_carryOutAll_86, q_X12_carryOutAll_89, xpush, xiload, xaload, xlload, xfload, xdload, lkill, xistore, xastore, xfstore, xlstore, xdstore, xiinc, xbin, xdiv, xun, xlbin, xi2l, xi2f, xi2d, xlcmp, xfcmp, xdcmp, xfdiv, xddiv, c1, xdup, xpop, xdup_x1, xdup2, xif, xicmp, xtab, xtabL, xget, xput, xald, xast, xalen, xnew, xnewa, c1s, recvOk, xcall, kont, xret, xlret, xfret, xdret, xaret, xvret, xs, xnewq, xastq, xcopy, xcopyF, xobj, xmax, xmin, xdead, xpushq, xmna, ls0, List.map_cons, List.map_nil, List.length_cons, List.length_nil, List.replicate, List.append_nil, List.cons_append, List.nil_append, List.getElem?_cons_zero, List.getElem?_cons_succ, List.getElem?_nil, List.set_cons_zero, List.set_cons_succ, List.take_succ_cons, List.take_zero, List.drop_succ_cons, List.drop_zero, List.reverse_cons, List.reverse_nil, List.sum_cons, List.sum_nil, Value.category, Option.toList_some, Option.toList_none, Nat.reduceAdd, Nat.reduceSub, Nat.reduceLT, Nat.reduceLeDiff, Nat.zero_add, Nat.le_refl, true_and, and_true, Nat.sub_zero, Nat.zero_lt_succ, Nat.zero_le, Nat.not_lt_zero, Nat.reduceEqDiff, Nat.one_ne_zero, nI_toInt, Int.reduceEq, Int.reduceAdd, Int.reduceLT, Int.reduceLE, Int.cast_ofNat_Int, reduceIte, or_false, false_or, eq_self, or_true, true_or, or_self, nI_clamp, vp_in_nI, nI_ltI, nI_leI, nI_eq, nI_add, nI_zero9, nI_nlt0, nI_le0, nI_lt0, arG, va_rf, not_false_eq_true, not_true_eq_false, false_implies, true_implies, implies_true, ne_eq, okv_int, okv_z0, okv_z1, okv_zN, okv_ref, okv_arr, okv_null, vn_z0, vn_z1, vn_zN, nr_int, nr_z, va_up_self, up_fr, rw1_j, rw1_up, l1', l2.1]
    refine ⟨b + 1, b + 709, b + 710, (rOr T rs2).2, M2, Mm2, r2, d2, rfl, l9, ho.1.2.1, Nat.lt_trans ho.1.2.2.1 (by omega), Nat.lt_trans ho.1.2.2.2.1 (by omega), by omega, hI2.w, l14.mono (by omega), l2, fun f4 Mm4 g4 fr4 => ?_⟩
    have hok := carO_ok (r := r2) (d := d2) (s := (rOr T rs2).2) hI2
    have hx4 : isOx V f4 b z _ _ _ L W T Ln Mm4 Mt Ms (pup rows fr M) fr (rOr T rs2).2 tv lv hs := hx3.wp g4 (l5.fr (fun q _ _ => fr4 q (by omega))) l6 (fun q q1 q2 => fr4 q (by omega))
    have fr5 : ∀ q, q < b → f4 q = f q := fun q hq => (fr4 q (by omega)).trans ((fr3 q (by omega)).trans (fr2 q hq))
    have m1 := hx4.1
    have m5 := hx4.2.2.2.2.1
    have m9 := hx4.2.2.2.2.2.2.2.2.1
    unfold oB at m1
    unfold isRr at m9
    simp (disch := omega) only [q_X12_carryOutAll_0, q_X12_carryOutAll_1, q_X12_carryOutAll_4, q_X12_carryOutAll_5, q_X12_carryOutAll_8, q_X12_carryOutAll_11, q_X12_carryOutAll_12, q_X12_carryOutAll_15, q_X12_carryOutAll_16, q_X12_carryOutAll_19, q_X12_carryOutAll_20, q_X12_carryOutAll_21, q_X12_carryOutAll_22, q_X12_carryOutAll_23, q_X12_carryOutAll_26, q_X12_carryOutAll_27, q_X12_carryOutAll_30, q_X12_carryOutAll_33, q_X12_carryOutAll_34, q_X12_carryOutAll_35, q_X12_carryOutAll_38, q_X12_carryOutAll_39, q_X12_carryOutAll_42, q_X12_carryOutAll_45, q_X12_carryOutAll_48, q_X12_carryOutAll_49, q_X12_carryOutAll_52, q_X12_carryOutAll_53, q_X12_carryOutAll_56, q_X12_carryOutAll_59, q_X12_carryOutAll_60, q_X12_carryOutAll_63, q_X12_carryOutAll_65, q_X12_carryOutAll_66, q_X12_carryOutAll_69, q_X12_carryOutAll_70, q_X12_carryOutAll_71, q_X12_carryOutAll_74, q_X12_carryOutAll_77, q_X12_carryOutAll_78, q_X12_carryOutAll_84, q_X12_carryOutAll_85, q_X12_carryOutAll_86, q_X12_carryOutAll_89, xpush, xiload, xaload, xlload, xfload, xdload, lkill, xistore, xastore, xfstore, xlstore, xdstore, xiinc, xbin, xdiv, xun, xlbin, xi2l, xi2f, xi2d, xlcmp, xfcmp, xdcmp, xfdiv, xddiv, c1, xdup, xpop, xdup_x1, xdup2, xif, xicmp, xtab, xtabL, xget, xput, xald, xast, xalen, xnew, xnewa, c1s, recvOk, xcall, kont, xret, xlret, xfret, xdret, xaret, xvret, xs, xnewq, xastq, xcopy, xcopyF, xobj, xmax, xmin, xdead, xpushq, xmna, ls0, List.map_cons, List.map_nil, List.length_cons, List.length_nil, List.replicate, List.append_nil, List.cons_append, List.nil_append, List.getElem?_cons_zero, List.getElem?_cons_succ, List.getElem?_nil, List.set_cons_zero, List.set_cons_succ, List.take_succ_cons, List.take_zero, List.drop_succ_cons, List.drop_zero, List.reverse_cons, List.reverse_nil, List.sum_cons, List.sum_nil, Value.category, Option.toList_some, Option.toList_none, Nat.reduceAdd, Nat.reduceSub, Nat.reduceLT, Nat.reduceLeDiff, Nat.zero_add, Nat.le_refl, true_and, and_true, Nat.sub_zero, Nat.zero_lt_succ, Nat.zero_le, Nat.not_lt_zero, Nat.reduceEqDiff, Nat.one_ne_zero, nI_toInt, Int.reduceEq, Int.reduceAdd, Int.reduceLT, Int.reduceLE, Int.cast_ofNat_Int, reduceIte, or_false, false_or, eq_self, or_true, true_or, or_self, nI_clamp, vp_in_nI, nI_ltI, nI_leI, nI_eq, nI_add, nI_zero9, nI_nlt0, nI_le0, nI_lt0, arG, va_rf, not_false_eq_true, not_true_eq_false, false_implies, true_implies, implies_true, ne_eq, okv_int, okv_z0, okv_z1, okv_zN, okv_ref, okv_arr, okv_null, vn_z0, vn_z1, vn_zN, nr_int, nr_z, va_up_self, up_fr, rw1_j, rw1_up, m1, m5.1, m9]
    refine ⟨fun hpos => ?_, fun hneg => ?_⟩
    · have hX4 := hx4.rX ho.1.1
      have hs4 := rSk_ok (c := 59) hX4.2.1
      refine ⟨b + 709, b + 710, tv, b + 714, z, T, _, rfl, hX4, fun f5 g5 fr6 => ?_⟩
      simp (disch := omega) only [q_X12_carryOutAll_0, q_X12_carryOutAll_1, q_X12_carryOutAll_4, q_X12_carryOutAll_5, q_X12_carryOutAll_8, q_X12_carryOutAll_11, q_X12_carryOutAll_12, q_X12_carryOutAll_15, q_X12_carryOutAll_16, q_X12_carryOutAll_19, q_X12_carryOutAll_20, q_X12_carryOutAll_21, q_X12_carryOutAll_22, q_X12_carryOutAll_23, q_X12_carryOutAll_26, q_X12_carryOutAll_27, q_X12_carryOutAll_30, q_X12_carryOutAll_33, q_X12_carryOutAll_34, q_X12_carryOutAll_35, q_X12_carryOutAll_38, q_X12_carryOutAll_39, q_X12_carryOutAll_42, q_X12_carryOutAll_45, q_X12_carryOutAll_48, q_X12_carryOutAll_49, q_X12_carryOutAll_52, q_X12_carryOutAll_53, q_X12_carryOutAll_56, q_X12_carryOutAll_59, q_X12_carryOutAll_60, q_X12_carryOutAll_63, q_X12_carryOutAll_65, q_X12_carryOutAll_66, q_X12_carryOutAll_69, q_X12_carryOutAll_70, q_X12_carryOutAll_71, q_X12_carryOutAll_74, q_X12_carryOutAll_77, q_X12_carryOutAll_78, q_X12_carryOutAll_84, q_X12_carryOutAll_85, q_X12_carryOutAll_86, q_X12_carryOutAll_89, xpush, xiload, xaload, xlload, xfload, xdload, lkill, xistore, xastore, xfstore, xlstore, xdstore, xiinc, xbin, xdiv, xun, xlbin, xi2l, xi2f, xi2d, xlcmp, xfcmp, xdcmp, xfdiv, xddiv, c1, xdup, xpop, xdup_x1, xdup2, xif, xicmp, xtab, xtabL, xget, xput, xald, xast, xalen, xnew, xnewa, c1s, recvOk, xcall, kont, xret, xlret, xfret, xdret, xaret, xvret, xs, xnewq, xastq, xcopy, xcopyF, xobj, xmax, xmin, xdead, xpushq, xmna, ls0, List.map_cons, List.map_nil, List.length_cons, List.length_nil, List.replicate, List.append_nil, List.cons_append, List.nil_append, List.getElem?_cons_zero, List.getElem?_cons_succ, List.getElem?_nil, List.set_cons_zero, List.set_cons_succ, List.take_succ_cons, List.take_zero, List.drop_succ_cons, List.drop_zero, List.reverse_cons, List.reverse_nil, List.sum_cons, List.sum_nil, Value.category, Option.toList_some, Option.toList_none, Nat.reduceAdd, Nat.reduceSub, Nat.reduceLT, Nat.reduceLeDiff, Nat.zero_add, Nat.le_refl, true_and, and_true, Nat.sub_zero, Nat.zero_lt_succ, Nat.zero_le, Nat.not_lt_zero, Nat.reduceEqDiff, Nat.one_ne_zero, nI_toInt, Int.reduceEq, Int.reduceAdd, Int.reduceLT, Int.reduceLE, Int.cast_ofNat_Int, reduceIte, or_false, false_or, eq_self, or_true, true_or, or_self, nI_clamp, vp_in_nI, nI_ltI, nI_leI, nI_eq, nI_add, nI_zero9, nI_nlt0, nI_le0, nI_lt0, arG, va_rf, not_false_eq_true, not_true_eq_false, false_implies, true_implies, implies_true, ne_eq, okv_int, okv_z0, okv_z1, okv_zN, okv_ref, okv_arr, okv_null, vn_z0, vn_z1, vn_zN, nr_int, nr_z, va_up_self, up_fr, rw1_j, rw1_up]
      refine ih f5 ⟨_, _, _, Mm4, _, hx4.rd g5 hs4.1.2 fr6, ?_, hs4.1.1, (hok.pos hpos).mono (by omega), fun q hq => (fr6 q (by omega)).trans (fr5 q hq)⟩
      rw [rSk_4]
      exact h43
    · have ep : pup rows fr M fr = M := if_pos rfl
      have hw4 := hx4.2.1
      refine ⟨b + 205, b + 2, pup rows fr M, fr, L.length, _, rfl, l6.1, hx4.2.2.2.2.1, hw4.2.1, by rw [ep]; exact hI.1.1.1, by omega, fun f5 g5 fr6 => ?_⟩
      rw [ep] at g5
      have b5 : f5 b = f4 b := fr6 b (by omega)
      have w5 : f5 (b + 1) = f4 (b + 1) := fr6 _ (by omega)
      simp (disch := omega) only [q_X12_carryOutAll_0, q_X12_carryOutAll_1, q_X12_carryOutAll_4, q_X12_carryOutAll_5, q_X12_carryOutAll_8, q_X12_carryOutAll_11, q_X12_carryOutAll_12, q_X12_carryOutAll_15, q_X12_carryOutAll_16, q_X12_carryOutAll_19, q_X12_carryOutAll_20, q_X12_carryOutAll_21, q_X12_carryOutAll_22, q_X12_carryOutAll_23, q_X12_carryOutAll_26, q_X12_carryOutAll_27, q_X12_carryOutAll_30, q_X12_carryOutAll_33, q_X12_carryOutAll_34, q_X12_carryOutAll_35, q_X12_carryOutAll_38, q_X12_carryOutAll_39, q_X12_carryOutAll_42, q_X12_carryOutAll_45, q_X12_carryOutAll_48, q_X12_carryOutAll_49, q_X12_carryOutAll_52, q_X12_carryOutAll_53, q_X12_carryOutAll_56, q_X12_carryOutAll_59, q_X12_carryOutAll_60, q_X12_carryOutAll_63, q_X12_carryOutAll_65, q_X12_carryOutAll_66, q_X12_carryOutAll_69, q_X12_carryOutAll_70, q_X12_carryOutAll_71, q_X12_carryOutAll_74, q_X12_carryOutAll_77, q_X12_carryOutAll_78, q_X12_carryOutAll_84, q_X12_carryOutAll_85, q_X12_carryOutAll_86, q_X12_carryOutAll_89, xpush, xiload, xaload, xlload, xfload, xdload, lkill, xistore, xastore, xfstore, xlstore, xdstore, xiinc, xbin, xdiv, xun, xlbin, xi2l, xi2f, xi2d, xlcmp, xfcmp, xdcmp, xfdiv, xddiv, c1, xdup, xpop, xdup_x1, xdup2, xif, xicmp, xtab, xtabL, xget, xput, xald, xast, xalen, xnew, xnewa, c1s, recvOk, xcall, kont, xret, xlret, xfret, xdret, xaret, xvret, xs, xnewq, xastq, xcopy, xcopyF, xobj, xmax, xmin, xdead, xpushq, xmna, ls0, List.map_cons, List.map_nil, List.length_cons, List.length_nil, List.replicate, List.append_nil, List.cons_append, List.nil_append, List.getElem?_cons_zero, List.getElem?_cons_succ, List.getElem?_nil, List.set_cons_zero, List.set_cons_succ, List.take_succ_cons, List.take_zero, List.drop_succ_cons, List.drop_zero, List.reverse_cons, List.reverse_nil, List.sum_cons, List.sum_nil, Value.category, Option.toList_some, Option.toList_none, Nat.reduceAdd, Nat.reduceSub, Nat.reduceLT, Nat.reduceLeDiff, Nat.zero_add, Nat.le_refl, true_and, and_true, Nat.sub_zero, Nat.zero_lt_succ, Nat.zero_le, Nat.not_lt_zero, Nat.reduceEqDiff, Nat.one_ne_zero, nI_toInt, Int.reduceEq, Int.reduceAdd, Int.reduceLT, Int.reduceLE, Int.cast_ofNat_Int, reduceIte, or_false, false_or, eq_self, or_true, true_or, or_self, nI_clamp, vp_in_nI, nI_ltI, nI_leI, nI_eq, nI_add, nI_zero9, nI_nlt0, nI_le0, nI_lt0, arG, va_rf, not_false_eq_true, not_true_eq_false, false_implies, true_implies, implies_true, ne_eq, okv_int, okv_z0, okv_z1, okv_zN, okv_ref, okv_arr, okv_null, vn_z0, vn_z1, vn_zN, nr_int, nr_z, va_up_self, up_fr, rw1_j, rw1_up, b5, m1, w5, hw4.1]
      have hw5 : isWk f5 (b + 1) M Mm4 _ _ := hw4.co g5 (fun q hq => fr6 q (by omega))
      refine ⟨b + 1, M, Mm4, _, _, nI 7, nI i, rfl, hw5, fun f6 g6 fr7 => ?_⟩
      simp (disch := omega) only [q_X12_carryOutAll_0, q_X12_carryOutAll_1, q_X12_carryOutAll_4, q_X12_carryOutAll_5, q_X12_carryOutAll_8, q_X12_carryOutAll_11, q_X12_carryOutAll_12, q_X12_carryOutAll_15, q_X12_carryOutAll_16, q_X12_carryOutAll_19, q_X12_carryOutAll_20, q_X12_carryOutAll_21, q_X12_carryOutAll_22, q_X12_carryOutAll_23, q_X12_carryOutAll_26, q_X12_carryOutAll_27, q_X12_carryOutAll_30, q_X12_carryOutAll_33, q_X12_carryOutAll_34, q_X12_carryOutAll_35, q_X12_carryOutAll_38, q_X12_carryOutAll_39, q_X12_carryOutAll_42, q_X12_carryOutAll_45, q_X12_carryOutAll_48, q_X12_carryOutAll_49, q_X12_carryOutAll_52, q_X12_carryOutAll_53, q_X12_carryOutAll_56, q_X12_carryOutAll_59, q_X12_carryOutAll_60, q_X12_carryOutAll_63, q_X12_carryOutAll_65, q_X12_carryOutAll_66, q_X12_carryOutAll_69, q_X12_carryOutAll_70, q_X12_carryOutAll_71, q_X12_carryOutAll_74, q_X12_carryOutAll_77, q_X12_carryOutAll_78, q_X12_carryOutAll_84, q_X12_carryOutAll_85, q_X12_carryOutAll_86, q_X12_carryOutAll_89, xpush, xiload, xaload, xlload, xfload, xdload, lkill, xistore, xastore, xfstore, xlstore, xdstore, xiinc, xbin, xdiv, xun, xlbin, xi2l, xi2f, xi2d, xlcmp, xfcmp, xdcmp, xfdiv, xddiv, c1, xdup, xpop, xdup_x1, xdup2, xif, xicmp, xtab, xtabL, xget, xput, xald, xast, xalen, xnew, xnewa, c1s, recvOk, xcall, kont, xret, xlret, xfret, xdret, xaret, xvret, xs, xnewq, xastq, xcopy, xcopyF, xobj, xmax, xmin, xdead, xpushq, xmna, ls0, List.map_cons, List.map_nil, List.length_cons, List.length_nil, List.replicate, List.append_nil, List.cons_append, List.nil_append, List.getElem?_cons_zero, List.getElem?_cons_succ, List.getElem?_nil, List.set_cons_zero, List.set_cons_succ, List.take_succ_cons, List.take_zero, List.drop_succ_cons, List.drop_zero, List.reverse_cons, List.reverse_nil, List.sum_cons, List.sum_nil, Value.category, Option.toList_some, Option.toList_none, Nat.reduceAdd, Nat.reduceSub, Nat.reduceLT, Nat.reduceLeDiff, Nat.zero_add, Nat.le_refl, true_and, and_true, Nat.sub_zero, Nat.zero_lt_succ, Nat.zero_le, Nat.not_lt_zero, Nat.reduceEqDiff, Nat.one_ne_zero, nI_toInt, Int.reduceEq, Int.reduceAdd, Int.reduceLT, Int.reduceLE, Int.cast_ofNat_Int, reduceIte, or_false, false_or, eq_self, or_true, true_or, or_self, nI_clamp, vp_in_nI, nI_ltI, nI_leI, nI_eq, nI_add, nI_zero9, nI_nlt0, nI_le0, nI_lt0, arG, va_rf, not_false_eq_true, not_true_eq_false, false_implies, true_implies, implies_true, ne_eq, okv_int, okv_z0, okv_z1, okv_zN, okv_ref, okv_arr, okv_null, vn_z0, vn_z1, vn_zN, nr_int, nr_z, va_up_self, up_fr, rw1_j, rw1_up]
      have p6 : isPa f6 (b + 205) (pup rows fr M) fr L.length := hx4.2.2.2.2.1.fr (fun q _ _ => (fr7 q (by omega)).trans (fr6 q (by omega)))
      exact hK1 (nI i) f6 Mm4 _ _ (hx4.wp g6 p6 l6 (fun q q1 q2 => (fr7 q (by omega)).trans (fr6 q (by omega)))) (fun q hq => (fr7 q (by omega)).trans ((fr6 q (by omega)).trans (fr5 q hq))))
abbrev Sp_X12_run (V : Nat → Nat) : Spt := fun as z f K => ∃ (b : Nat) (M : Cm) (r d : Int32) (L : List Cm) (W : Option Cm) (T Ln : List Nat) (B : Nat), as = [.ref b] ∧ isO V f b z M r d L W T Ln ∧ Inv B M ∧ (∀ k z' f', k < 100 → ¬ rGood T → z ≤ z' → isO V f' b z' M r d L W [] Ln → (∀ q, q < b → f' q = f q) → K (some (.int (-1000 - nI k))) z' f') ∧ (∀ d' z' f', z ≤ z' → isO V f' b z' M (nI 7) d' L W [] Ln → (∀ q, q < b → f' q = f q) → K (some (.int (-14))) z' f') ∧ ∀ n M' r' d' z' f', n < 100 → z ≤ z' → Inv (B + 3000) M' → isO V f' b z' M' r' d' ((M :: L).take 8) W [] Ln → (∀ q, q < b → f' q = f q) → K (some (.int (nI n))) z' f'
def rm_X12_run : Room := { frames := 9, cells := 1, slots := 70, locals := 195 }
def q_X12_run_42 (V : Nat → Nat) (ls : Ls) (st : List Value) (z : Zz) (f : Fm) (E : Ej) (R : Kr) : Prop := xret .int ls st z f E R
def q_X12_run_41 (V : Nat → Nat) (ls : Ls) (st : List Value) (z : Zz) (f : Fm) (E : Ej) (R : Kr) : Prop := xiload 2 (q_X12_run_42 V) ls st z f E R
def q_X12_run_38 (V : Nat → Nat) (ls : Ls) (st : List Value) (z : Zz) (f : Fm) (E : Ej) (R : Kr) : Prop := xcall 2 1 Sp_J4_setLength_d00df 1 70 (q_X12_run_41 V) ls st z f E R
def q_X12_run_37 (V : Nat → Nat) (ls : Ls) (st : List Value) (z : Zz) (f : Fm) (E : Ej) (R : Kr) : Prop := xpush (.int (nI 0)) (q_X12_run_38 V) ls st z f E R
def q_X12_run_34 (V : Nat → Nat) (ls : Ls) (st : List Value) (z : Zz) (f : Fm) (E : Ej) (R : Kr) : Prop := xget 11 8 (q_X12_run_37 V) ls st z f E R
def q_X12_run_33 (V : Nat → Nat) (ls : Ls) (st : List Value) (z : Zz) (f : Fm) (E : Ej) (R : Kr) : Prop := xaload 0 (q_X12_run_34 V) ls st z f E R
def q_X12_run_32 (V : Nat → Nat) (ls : Ls) (st : List Value) (z : Zz) (f : Fm) (E : Ej) (R : Kr) : Prop := xistore 2 (q_X12_run_33 V) ls st z f E R
def q_X12_run_29 (V : Nat → Nat) (ls : Ls) (st : List Value) (z : Zz) (f : Fm) (E : Ej) (R : Kr) : Prop := xcall 2 12 (Sp_X12_carryOutAll V) 0 0 (xs 32) ls st z f E R
def q_X12_run_28 (V : Nat → Nat) (ls : Ls) (st : List Value) (z : Zz) (f : Fm) (E : Ej) (R : Kr) : Prop := xiload 1 (q_X12_run_29 V) ls st z f E R
def q_X12_run_27 (V : Nat → Nat) (ls : Ls) (st : List Value) (z : Zz) (f : Fm) (E : Ej) (R : Kr) : Prop := xaload 0 (q_X12_run_28 V) ls st z f E R
def q_X12_run_23 (V : Nat → Nat) (ls : Ls) (st : List Value) (z : Zz) (f : Fm) (E : Ej) (R : Kr) : Prop := xbin (fun x y => x - y) (xs 32) ls st z f E R
def q_X12_run_20 (V : Nat → Nat) (ls : Ls) (st : List Value) (z : Zz) (f : Fm) (E : Ej) (R : Kr) : Prop := xget 6 1 (q_X12_run_23 V) ls st z f E R
def q_X12_run_17 (V : Nat → Nat) (ls : Ls) (st : List Value) (z : Zz) (f : Fm) (E : Ej) (R : Kr) : Prop := xget 11 7 (q_X12_run_20 V) ls st z f E R
def q_X12_run_16 (V : Nat → Nat) (ls : Ls) (st : List Value) (z : Zz) (f : Fm) (E : Ej) (R : Kr) : Prop := xaload 0 (q_X12_run_17 V) ls st z f E R
def q_X12_run_13 (V : Nat → Nat) (ls : Ls) (st : List Value) (z : Zz) (f : Fm) (E : Ej) (R : Kr) : Prop := xpush (.int (-1000)) (q_X12_run_16 V) ls st z f E R
def q_X12_run_10 (V : Nat → Nat) (ls : Ls) (st : List Value) (z : Zz) (f : Fm) (E : Ej) (R : Kr) : Prop := xicmp (fun x y => ¬ x = y) (q_X12_run_27 V) (q_X12_run_13 V) ls st z f E R
def q_X12_run_9 (V : Nat → Nat) (ls : Ls) (st : List Value) (z : Zz) (f : Fm) (E : Ej) (R : Kr) : Prop := xpush (.int (-1)) (q_X12_run_10 V) ls st z f E R
def q_X12_run_8 (V : Nat → Nat) (ls : Ls) (st : List Value) (z : Zz) (f : Fm) (E : Ej) (R : Kr) : Prop := xiload 1 (q_X12_run_9 V) ls st z f E R
def q_X12_run_7 (V : Nat → Nat) (ls : Ls) (st : List Value) (z : Zz) (f : Fm) (E : Ej) (R : Kr) : Prop := xistore 1 (q_X12_run_8 V) ls st z f E R
def q_X12_run_4 (V : Nat → Nat) (ls : Ls) (st : List Value) (z : Zz) (f : Fm) (E : Ej) (R : Kr) : Prop := xcall 1 7 (Sp_X7_countOrders V) 0 0 (q_X12_run_7 V) ls st z f E R
def q_X12_run_1 (V : Nat → Nat) (ls : Ls) (st : List Value) (z : Zz) (f : Fm) (E : Ej) (R : Kr) : Prop := xget 11 7 (q_X12_run_4 V) ls st z f E R
def q_X12_run_0 (V : Nat → Nat) (ls : Ls) (st : List Value) (z : Zz) (f : Fm) (E : Ej) (R : Kr) : Prop := xaload 0 (q_X12_run_1 V) ls st z f E R
set_option maxRecDepth 100000 in
theorem t_X12_run {s0 : State} {D : va_G} {ids : Nat → ClassId} {V : Nat → Nat} {l : Launch} {K : Kr} {E : Ej} (G : GG s0 D ids V) (X : EnX s0 D ids l RX12 cX12_run 3 (some .int) "run" rm_X12_run K E) : Sd E K 0 (q_X12_run_0 V) ∧ Sd E K 32 (q_X12_run_32 V) := by
  have h42 : Sd E K 42 (q_X12_run_42 V) := sd_ret X (by decide +kernel : decode cX12_run 42 = .ok (.ireturn, 1))
  have h41 : Sd E K 41 (q_X12_run_41 V) := sd_iload_n X (by decide +kernel : decode cX12_run 41 = .ok (.iload_n 2, 1)) rfl h42
  have h38 : Sd E K 38 (q_X12_run_38 V) := sd_callV (n := 1) (ci := 0) X (ct_J4_setLength_d00df G) (by decide +kernel : decode cX12_run 38 = .ok (.invokevirtual 240, 3)) wd_745 wd_742 wd_743 wd_744 wd_36 (by decide +kernel) (Or.inl ⟨by decide, _, _, rfl⟩) ⟨Nat.le_of_ble_eq_true rfl, Nat.le_of_ble_eq_true rfl⟩ h41
  have h37 : Sd E K 37 (q_X12_run_37 V) := sd_iconst X (by decide +kernel : decode cX12_run 37 = .ok (.iconst 0, 1)) (by decide +kernel) h38
  have h34 : Sd E K 34 (q_X12_run_34 V) := sd_get X (by decide +kernel : decode cX12_run 34 = .ok (.getfield 62, 3)) ok_X12 (Nat.le_of_ble_eq_true rfl) wd_382 h37
  have h33 : Sd E K 33 (q_X12_run_33 V) := sd_aload_n X (by decide +kernel : decode cX12_run 33 = .ok (.aload_n 0, 1)) rfl h34
  have h32 : Sd E K 32 (q_X12_run_32 V) := sd_istore_n X (by decide +kernel : decode cX12_run 32 = .ok (.istore_n 2, 1)) rfl h33
  have h29 : Sd E K 29 (q_X12_run_29 V) := sd_callV (n := 1) (ci := 11) X (ct_X12_carryOutAll G) (by decide +kernel : decode cX12_run 29 = .ok (.invokevirtual 237, 3)) wd_700 wd_697 wd_699 wd_12 wd_24 (by decide +kernel) (Or.inl ⟨by decide, _, _, rfl⟩) ⟨Nat.le_of_ble_eq_true rfl, Nat.le_of_ble_eq_true rfl⟩ (sd_s 32)
  have h28 : Sd E K 28 (q_X12_run_28 V) := sd_iload_n X (by decide +kernel : decode cX12_run 28 = .ok (.iload_n 1, 1)) rfl h29
  have h27 : Sd E K 27 (q_X12_run_27 V) := sd_aload_n X (by decide +kernel : decode cX12_run 27 = .ok (.aload_n 0, 1)) rfl h28
  have h24 : Sd E K 24 (xs 32) := sd_goto X (by decide +kernel : decode cX12_run 24 = .ok (.goto 8, 3)) (by decide) (sd_s 32)
  have h23 : Sd E K 23 (q_X12_run_23 V) := sd_isub X (by decide +kernel : decode cX12_run 23 = .ok (.isub, 1)) h24
  have h20 : Sd E K 20 (q_X12_run_20 V) := sd_get X (by decide +kernel : decode cX12_run 20 = .ok (.getfield 234, 3)) ok_X7 (Nat.le_of_ble_eq_true rfl) wd_347 h23
  have h17 : Sd E K 17 (q_X12_run_17 V) := sd_get X (by decide +kernel : decode cX12_run 17 = .ok (.getfield 54, 3)) ok_X12 (Nat.le_of_ble_eq_true rfl) wd_381 h20
  have h16 : Sd E K 16 (q_X12_run_16 V) := sd_aload_n X (by decide +kernel : decode cX12_run 16 = .ok (.aload_n 0, 1)) rfl h17
  have h13 : Sd E K 13 (q_X12_run_13 V) := sd_sipush X (by decide +kernel : decode cX12_run 13 = .ok (.sipush (-1000), 3)) (by decide +kernel) h16
  have h10 : Sd E K 10 (q_X12_run_10 V) := sd_icmp_ne X (by decide +kernel : decode cX12_run 10 = .ok (.if_icmp .ne 17, 3)) (by decide) h27 h13
  have h9 : Sd E K 9 (q_X12_run_9 V) := sd_iconst X (by decide +kernel : decode cX12_run 9 = .ok (.iconst (-1), 1)) (by decide +kernel) h10
  have h8 : Sd E K 8 (q_X12_run_8 V) := sd_iload_n X (by decide +kernel : decode cX12_run 8 = .ok (.iload_n 1, 1)) rfl h9
  have h7 : Sd E K 7 (q_X12_run_7 V) := sd_istore_n X (by decide +kernel : decode cX12_run 7 = .ok (.istore_n 1, 1)) rfl h8
  have h4 : Sd E K 4 (q_X12_run_4 V) := sd_callV (n := 0) (ci := 6) X (ct_X7_countOrders G) (by decide +kernel : decode cX12_run 4 = .ok (.invokevirtual 231, 3)) wd_598 wd_595 wd_596 wd_597 wd_34 (by decide +kernel) (Or.inl ⟨by decide, _, _, rfl⟩) ⟨Nat.le_of_ble_eq_true rfl, Nat.le_of_ble_eq_true rfl⟩ h7
  have h1 : Sd E K 1 (q_X12_run_1 V) := sd_get X (by decide +kernel : decode cX12_run 1 = .ok (.getfield 54, 3)) ok_X12 (Nat.le_of_ble_eq_true rfl) wd_381 h4
  have h0 : Sd E K 0 (q_X12_run_0 V) := sd_aload_n X (by decide +kernel : decode cX12_run 0 = .ok (.aload_n 0, 1)) rfl h1
  exact ⟨h0, h32⟩
set_option maxHeartbeats 4000000 in
set_option maxRecDepth 100000 in
theorem ct_X12_run {s0 : State} {D : va_G} {ids : Nat → ClassId} {V : Nat → Nat} {l : Launch} (G : GG s0 D ids V) : CT s0 D ids l yX12_run cX12_run 3 (some .int) rm_X12_run (Sp_X12_run V) := CT.of (by decide +kernel) G.k (by
  rintro as z f K E ⟨b, M, r, d, L, W, T, Ln, B, rfl, ⟨Mm, Mt, Ms, rows, fr, rs, tv, lv, hs, hx⟩, hI, hK1, hK2, hK3⟩ X
  obtain ⟨t0, t32⟩ := t_X12_run G X
  refine ⟨Nat.le_of_ble_eq_true rfl, by simp [Value.category], t0 _ _ _ _ ?_⟩
  obtain ⟨h1, h2, h3, h3', h5, h6, -, -, h9, h10, h11, -, -, h14, h15, h16, -⟩ := id hx
  unfold oB at h1
  have v1 := h11.v
  have h9' := h9
  unfold isRr at h9'
  simp (disch := omega) only [q_X12_run_0, q_X12_run_1, q_X12_run_4, q_X12_run_7, q_X12_run_8, q_X12_run_9, q_X12_run_10, q_X12_run_13, q_X12_run_16, q_X12_run_17, q_X12_run_20, q_X12_run_23, q_X12_run_27, q_X12_run_28, q_X12_run_29, q_X12_run_32, q_X12_run_33, q_X12_run_34, q_X12_run_37, q_X12_run_38, q_X12_run_41, q_X12_run_42, xpush, xiload, xaload, xlload, xfload, xdload, lkill, xistore, xastore, xfstore, xlstore, xdstore, xiinc, xbin, xdiv, xun, xlbin, xi2l, xi2f, xi2d, xlcmp, xfcmp, xdcmp, xfdiv, xddiv, c1, xdup, xpop, xdup_x1, xdup2, xif, xicmp, xtab, xtabL, xget, xput, xald, xast, xalen, xnew, xnewa, c1s, recvOk, xcall, kont, xret, xlret, xfret, xdret, xaret, xvret, xs, xnewq, xastq, xcopy, xcopyF, xobj, xmax, xmin, xdead, xpushq, xmna, ls0, List.map_cons, List.map_nil, List.length_cons, List.length_nil, List.replicate, List.append_nil, List.cons_append, List.nil_append, List.getElem?_cons_zero, List.getElem?_cons_succ, List.getElem?_nil, List.set_cons_zero, List.set_cons_succ, List.take_succ_cons, List.take_zero, List.drop_succ_cons, List.drop_zero, List.reverse_cons, List.reverse_nil, List.sum_cons, List.sum_nil, Value.category, Option.toList_some, Option.toList_none, Nat.reduceAdd, Nat.reduceSub, Nat.reduceLT, Nat.reduceLeDiff, Nat.zero_add, Nat.le_refl, true_and, and_true, Nat.sub_zero, Nat.zero_lt_succ, Nat.zero_le, Nat.not_lt_zero, Nat.reduceEqDiff, Nat.one_ne_zero, nI_toInt, Int.reduceEq, Int.reduceAdd, Int.reduceLT, Int.reduceLE, Int.cast_ofNat_Int, reduceIte, or_false, false_or, eq_self, or_true, true_or, or_self, nI_clamp, vp_in_nI, nI_ltI, nI_leI, nI_eq, nI_add, nI_zero9, nI_nlt0, nI_le0, nI_lt0, arG, va_rf, not_false_eq_true, not_true_eq_false, false_implies, true_implies, implies_true, ne_eq, okv_int, okv_z0, okv_z1, okv_zN, okv_ref, okv_arr, okv_null, vn_z0, vn_z1, vn_zN, nr_int, nr_z, va_up_self, up_fr, rw1_j, rw1_up, h1, h9']
  refine ⟨b + 709, b + 710, tv, b + 714, z, T, rs, rfl, h9, ⟨Nat.zero_le _, h10⟩, ⟨by omega, h16, h11, by omega, by omega, h14.mono (by omega)⟩, fun f1 g1 fr1 => ?_⟩
  have hr0 : rOk T (hup rs 0 0) := ⟨Nat.zero_le _, h10⟩
  have hr1 := rCt_ok 60 1 hr0
  have hle := rCt_le (T := T) 60 1 (s := hup rs 0 0)
  have hx1 := hx.rd g1 hr1.2 fr1
  have e32 : ∀ (x : Int32) M1 r1 d1 L1 f2, (∀ q, q < b → f2 q = f q) → isO V f2 b z M1 r1 d1 L1 W T Ln → (∀ z3 f3, z ≤ z3 → isO V f3 b z3 M1 r1 d1 L1 W [] Ln → (∀ q, q < b → f3 q = f q) → K (some (.int x)) z3 f3) → ∀ v : Int32, E 32 [some (.ref b), some (.int v), none] [.int x] (z, rm_X12_run.cells, rm_X12_run.slots) f2 := fun x M1 r1 d1 L1 f2 fr2 ho2 hk v => by
    obtain ⟨Mm2, Mt2, Ms2, rows2, fr2', rs2, tv2, lv2, hs2, hx2⟩ := ho2
    obtain ⟨k1, -, -, -, -, -, -, -, -, -, k11, -⟩ := id hx2
    obtain ⟨cap, lt, b0, i1, -⟩ := id k11
    have v2 := k11.v
    unfold oB at k1
    refine t32 _ _ _ _ ?_
    simp (disch := omega) only [q_X12_run_0, q_X12_run_1, q_X12_run_4, q_X12_run_7, q_X12_run_8, q_X12_run_9, q_X12_run_10, q_X12_run_13, q_X12_run_16, q_X12_run_17, q_X12_run_20, q_X12_run_23, q_X12_run_27, q_X12_run_28, q_X12_run_29, q_X12_run_32, q_X12_run_33, q_X12_run_34, q_X12_run_37, q_X12_run_38, q_X12_run_41, q_X12_run_42, xpush, xiload, xaload, xlload, xfload, xdload, lkill, xistore, xastore, xfstore, xlstore, xdstore, xiinc, xbin, xdiv, xun, xlbin, xi2l, xi2f, xi2d, xlcmp, xfcmp, xdcmp, xfdiv, xddiv, c1, xdup, xpop, xdup_x1, xdup2, xif, xicmp, xtab, xtabL, xget, xput, xald, xast, xalen, xnew, xnewa, c1s, recvOk, xcall, kont, xret, xlret, xfret, xdret, xaret, xvret, xs, xnewq, xastq, xcopy, xcopyF, xobj, xmax, xmin, xdead, xpushq, xmna, ls0, List.map_cons, List.map_nil, List.length_cons, List.length_nil, List.replicate, List.append_nil, List.cons_append, List.nil_append, List.getElem?_cons_zero, List.getElem?_cons_succ, List.getElem?_nil, List.set_cons_zero, List.set_cons_succ, List.take_succ_cons, List.take_zero, List.drop_succ_cons, List.drop_zero, List.reverse_cons, List.reverse_nil, List.sum_cons, List.sum_nil, Value.category, Option.toList_some, Option.toList_none, Nat.reduceAdd, Nat.reduceSub, Nat.reduceLT, Nat.reduceLeDiff, Nat.zero_add, Nat.le_refl, true_and, and_true, Nat.sub_zero, Nat.zero_lt_succ, Nat.zero_le, Nat.not_lt_zero, Nat.reduceEqDiff, Nat.one_ne_zero, nI_toInt, Int.reduceEq, Int.reduceAdd, Int.reduceLT, Int.reduceLE, Int.cast_ofNat_Int, reduceIte, or_false, false_or, eq_self, or_true, true_or, or_self, nI_clamp, vp_in_nI, nI_ltI, nI_leI, nI_eq, nI_add, nI_zero9, nI_nlt0, nI_le0, nI_lt0, arG, va_rf, not_false_eq_true, not_true_eq_false, false_implies, true_implies, implies_true, ne_eq, okv_int, okv_z0, okv_z1, okv_zN, okv_ref, okv_arr, okv_null, vn_z0, vn_z1, vn_zN, nr_int, nr_z, va_up_self, up_fr, rw1_j, rw1_up, k1, i1]
    refine ⟨Nat.le_of_ble_eq_true rfl, Nat.le_of_ble_eq_true rfl, b + 710, tv2, b + 714, T, rfl, k11, fun z3 f3 v3 hz3 g3 e3 fr3 => ?_⟩
    simp (disch := omega) only [q_X12_run_0, q_X12_run_1, q_X12_run_4, q_X12_run_7, q_X12_run_8, q_X12_run_9, q_X12_run_10, q_X12_run_13, q_X12_run_16, q_X12_run_17, q_X12_run_20, q_X12_run_23, q_X12_run_27, q_X12_run_28, q_X12_run_29, q_X12_run_32, q_X12_run_33, q_X12_run_34, q_X12_run_37, q_X12_run_38, q_X12_run_41, q_X12_run_42, xpush, xiload, xaload, xlload, xfload, xdload, lkill, xistore, xastore, xfstore, xlstore, xdstore, xiinc, xbin, xdiv, xun, xlbin, xi2l, xi2f, xi2d, xlcmp, xfcmp, xdcmp, xfdiv, xddiv, c1, xdup, xpop, xdup_x1, xdup2, xif, xicmp, xtab, xtabL, xget, xput, xald, xast, xalen, xnew, xnewa, c1s, recvOk, xcall, kont, xret, xlret, xfret, xdret, xaret, xvret, xs, xnewq, xastq, xcopy, xcopyF, xobj, xmax, xmin, xdead, xpushq, xmna, ls0, List.map_cons, List.map_nil, List.length_cons, List.length_nil, List.replicate, List.append_nil, List.cons_append, List.nil_append, List.getElem?_cons_zero, List.getElem?_cons_succ, List.getElem?_nil, List.set_cons_zero, List.set_cons_succ, List.take_succ_cons, List.take_zero, List.drop_succ_cons, List.drop_zero, List.reverse_cons, List.reverse_nil, List.sum_cons, List.sum_nil, Value.category, Option.toList_some, Option.toList_none, Nat.reduceAdd, Nat.reduceSub, Nat.reduceLT, Nat.reduceLeDiff, Nat.zero_add, Nat.le_refl, true_and, and_true, Nat.sub_zero, Nat.zero_lt_succ, Nat.zero_le, Nat.not_lt_zero, Nat.reduceEqDiff, Nat.one_ne_zero, nI_toInt, Int.reduceEq, Int.reduceAdd, Int.reduceLT, Int.reduceLE, Int.cast_ofNat_Int, reduceIte, or_false, false_or, eq_self, or_true, true_or, or_self, nI_clamp, vp_in_nI, nI_ltI, nI_leI, nI_eq, nI_add, nI_zero9, nI_nlt0, nI_le0, nI_lt0, arG, va_rf, not_false_eq_true, not_true_eq_false, false_implies, true_implies, implies_true, ne_eq, okv_int, okv_z0, okv_z1, okv_zN, okv_ref, okv_arr, okv_null, vn_z0, vn_z1, vn_zN, nr_int, nr_z, va_up_self, up_fr, rw1_j, rw1_up]
    exact hk z3 f3 hz3 ⟨_, _, _, _, _, _, _, _, _, hx2.tx hz3 g3 e3 (by simp) (by simp) fr3⟩ (fun q hq => (fr3 q (by omega) (by omega) (by omega)).trans (fr2 q hq))
  have b1 : f1 b = f b := fr1 b (by omega)
  have g1' := g1
  unfold isRr at g1'
  by_cases q : (rCt T 60 1 (hup rs 0 0)).1 = 0
  · rw [if_pos q]
    simp (disch := omega) only [q_X12_run_0, q_X12_run_1, q_X12_run_4, q_X12_run_7, q_X12_run_8, q_X12_run_9, q_X12_run_10, q_X12_run_13, q_X12_run_16, q_X12_run_17, q_X12_run_20, q_X12_run_23, q_X12_run_27, q_X12_run_28, q_X12_run_29, q_X12_run_32, q_X12_run_33, q_X12_run_34, q_X12_run_37, q_X12_run_38, q_X12_run_41, q_X12_run_42, xpush, xiload, xaload, xlload, xfload, xdload, lkill, xistore, xastore, xfstore, xlstore, xdstore, xiinc, xbin, xdiv, xun, xlbin, xi2l, xi2f, xi2d, xlcmp, xfcmp, xdcmp, xfdiv, xddiv, c1, xdup, xpop, xdup_x1, xdup2, xif, xicmp, xtab, xtabL, xget, xput, xald, xast, xalen, xnew, xnewa, c1s, recvOk, xcall, kont, xret, xlret, xfret, xdret, xaret, xvret, xs, xnewq, xastq, xcopy, xcopyF, xobj, xmax, xmin, xdead, xpushq, xmna, ls0, List.map_cons, List.map_nil, List.length_cons, List.length_nil, List.replicate, List.append_nil, List.cons_append, List.nil_append, List.getElem?_cons_zero, List.getElem?_cons_succ, List.getElem?_nil, List.set_cons_zero, List.set_cons_succ, List.take_succ_cons, List.take_zero, List.drop_succ_cons, List.drop_zero, List.reverse_cons, List.reverse_nil, List.sum_cons, List.sum_nil, Value.category, Option.toList_some, Option.toList_none, Nat.reduceAdd, Nat.reduceSub, Nat.reduceLT, Nat.reduceLeDiff, Nat.zero_add, Nat.le_refl, true_and, and_true, Nat.sub_zero, Nat.zero_lt_succ, Nat.zero_le, Nat.not_lt_zero, Nat.reduceEqDiff, Nat.one_ne_zero, nI_toInt, Int.reduceEq, Int.reduceAdd, Int.reduceLT, Int.reduceLE, Int.cast_ofNat_Int, reduceIte, or_false, false_or, eq_self, or_true, true_or, or_self, nI_clamp, vp_in_nI, nI_ltI, nI_leI, nI_eq, nI_add, nI_zero9, nI_nlt0, nI_le0, nI_lt0, arG, va_rf, not_false_eq_true, not_true_eq_false, false_implies, true_implies, implies_true, ne_eq, okv_int, okv_z0, okv_z1, okv_zN, okv_ref, okv_arr, okv_null, vn_z0, vn_z1, vn_zN, nr_int, nr_z, va_up_self, up_fr, rw1_j, rw1_up, b1, h1, g1']
    refine e32 _ M r d L f1 (fun q hq => fr1 q (by omega)) ⟨_, _, _, _, _, _, _, _, _, hx1⟩ (fun z3 f3 hz3 g3 fr3 => ?_) _
    exact hK1 _ z3 f3 (by have := hr1.1; omega) (fun hg => hg rs q) hz3 g3 fr3
  · rw [if_neg q]
    have n1 : nI (rCt T 60 1 (hup rs 0 0)).1 ≠ -1 := fun e => by
      have h0 : (0 : Int32) ≤ nI (rCt T 60 1 (hup rs 0 0)).1 := nn9 (by omega)
      rw [e] at h0
      exact absurd h0 (by decide +kernel)
    simp (disch := omega) only [q_X12_run_0, q_X12_run_1, q_X12_run_4, q_X12_run_7, q_X12_run_8, q_X12_run_9, q_X12_run_10, q_X12_run_13, q_X12_run_16, q_X12_run_17, q_X12_run_20, q_X12_run_23, q_X12_run_27, q_X12_run_28, q_X12_run_29, q_X12_run_32, q_X12_run_33, q_X12_run_34, q_X12_run_37, q_X12_run_38, q_X12_run_41, q_X12_run_42, xpush, xiload, xaload, xlload, xfload, xdload, lkill, xistore, xastore, xfstore, xlstore, xdstore, xiinc, xbin, xdiv, xun, xlbin, xi2l, xi2f, xi2d, xlcmp, xfcmp, xdcmp, xfdiv, xddiv, c1, xdup, xpop, xdup_x1, xdup2, xif, xicmp, xtab, xtabL, xget, xput, xald, xast, xalen, xnew, xnewa, c1s, recvOk, xcall, kont, xret, xlret, xfret, xdret, xaret, xvret, xs, xnewq, xastq, xcopy, xcopyF, xobj, xmax, xmin, xdead, xpushq, xmna, ls0, List.map_cons, List.map_nil, List.length_cons, List.length_nil, List.replicate, List.append_nil, List.cons_append, List.nil_append, List.getElem?_cons_zero, List.getElem?_cons_succ, List.getElem?_nil, List.set_cons_zero, List.set_cons_succ, List.take_succ_cons, List.take_zero, List.drop_succ_cons, List.drop_zero, List.reverse_cons, List.reverse_nil, List.sum_cons, List.sum_nil, Value.category, Option.toList_some, Option.toList_none, Nat.reduceAdd, Nat.reduceSub, Nat.reduceLT, Nat.reduceLeDiff, Nat.zero_add, Nat.le_refl, true_and, and_true, Nat.sub_zero, Nat.zero_lt_succ, Nat.zero_le, Nat.not_lt_zero, Nat.reduceEqDiff, Nat.one_ne_zero, nI_toInt, Int.reduceEq, Int.reduceAdd, Int.reduceLT, Int.reduceLE, Int.cast_ofNat_Int, reduceIte, or_false, false_or, eq_self, or_true, true_or, or_self, nI_clamp, vp_in_nI, nI_ltI, nI_leI, nI_eq, nI_add, nI_zero9, nI_nlt0, nI_le0, nI_lt0, arG, va_rf, not_false_eq_true, not_true_eq_false, false_implies, true_implies, implies_true, ne_eq, okv_int, okv_z0, okv_z1, okv_zN, okv_ref, okv_arr, okv_null, vn_z0, vn_z1, vn_zN, nr_int, nr_z, va_up_self, up_fr, rw1_j, rw1_up, b1, h1, g1']
    refine ⟨fun _ => ?_, fun e => absurd n1 e⟩
    refine ⟨_, b, M, r, d, L, W, T, Ln, Mm, Mt, Ms, rows, fr, _, tv, lv, hs, B, rfl, by omega, hx1, rCt_n4 q, hI, fun d2 f2 Mm2 rows2 rs2 hx2 fr2 => ?_, fun f2 M2 r2 d2 Mm2 rows2 fr2' rs2 hI2 hx2 fr2 => ?_⟩
    · simp (disch := omega) only [q_X12_run_0, q_X12_run_1, q_X12_run_4, q_X12_run_7, q_X12_run_8, q_X12_run_9, q_X12_run_10, q_X12_run_13, q_X12_run_16, q_X12_run_17, q_X12_run_20, q_X12_run_23, q_X12_run_27, q_X12_run_28, q_X12_run_29, q_X12_run_32, q_X12_run_33, q_X12_run_34, q_X12_run_37, q_X12_run_38, q_X12_run_41, q_X12_run_42, xpush, xiload, xaload, xlload, xfload, xdload, lkill, xistore, xastore, xfstore, xlstore, xdstore, xiinc, xbin, xdiv, xun, xlbin, xi2l, xi2f, xi2d, xlcmp, xfcmp, xdcmp, xfdiv, xddiv, c1, xdup, xpop, xdup_x1, xdup2, xif, xicmp, xtab, xtabL, xget, xput, xald, xast, xalen, xnew, xnewa, c1s, recvOk, xcall, kont, xret, xlret, xfret, xdret, xaret, xvret, xs, xnewq, xastq, xcopy, xcopyF, xobj, xmax, xmin, xdead, xpushq, xmna, ls0, List.map_cons, List.map_nil, List.length_cons, List.length_nil, List.replicate, List.append_nil, List.cons_append, List.nil_append, List.getElem?_cons_zero, List.getElem?_cons_succ, List.getElem?_nil, List.set_cons_zero, List.set_cons_succ, List.take_succ_cons, List.take_zero, List.drop_succ_cons, List.drop_zero, List.reverse_cons, List.reverse_nil, List.sum_cons, List.sum_nil, Value.category, Option.toList_some, Option.toList_none, Nat.reduceAdd, Nat.reduceSub, Nat.reduceLT, Nat.reduceLeDiff, Nat.zero_add, Nat.le_refl, true_and, and_true, Nat.sub_zero, Nat.zero_lt_succ, Nat.zero_le, Nat.not_lt_zero, Nat.reduceEqDiff, Nat.one_ne_zero, nI_toInt, Int.reduceEq, Int.reduceAdd, Int.reduceLT, Int.reduceLE, Int.cast_ofNat_Int, reduceIte, or_false, false_or, eq_self, or_true, true_or, or_self, nI_clamp, vp_in_nI, nI_ltI, nI_leI, nI_eq, nI_add, nI_zero9, nI_nlt0, nI_le0, nI_lt0, arG, va_rf, not_false_eq_true, not_true_eq_false, false_implies, true_implies, implies_true, ne_eq, okv_int, okv_z0, okv_z1, okv_zN, okv_ref, okv_arr, okv_null, vn_z0, vn_z1, vn_zN, nr_int, nr_z, va_up_self, up_fr, rw1_j, rw1_up]
      exact e32 _ M (nI 7) d2 L f2 (fun q hq => (fr2 q hq).trans (fr1 q (by omega))) ⟨_, _, _, _, _, _, _, _, _, hx2⟩ (fun z3 f3 hz3 g3 fr3 => hK2 d2 z3 f3 hz3 g3 fr3) _
    · simp (disch := omega) only [q_X12_run_0, q_X12_run_1, q_X12_run_4, q_X12_run_7, q_X12_run_8, q_X12_run_9, q_X12_run_10, q_X12_run_13, q_X12_run_16, q_X12_run_17, q_X12_run_20, q_X12_run_23, q_X12_run_27, q_X12_run_28, q_X12_run_29, q_X12_run_32, q_X12_run_33, q_X12_run_34, q_X12_run_37, q_X12_run_38, q_X12_run_41, q_X12_run_42, xpush, xiload, xaload, xlload, xfload, xdload, lkill, xistore, xastore, xfstore, xlstore, xdstore, xiinc, xbin, xdiv, xun, xlbin, xi2l, xi2f, xi2d, xlcmp, xfcmp, xdcmp, xfdiv, xddiv, c1, xdup, xpop, xdup_x1, xdup2, xif, xicmp, xtab, xtabL, xget, xput, xald, xast, xalen, xnew, xnewa, c1s, recvOk, xcall, kont, xret, xlret, xfret, xdret, xaret, xvret, xs, xnewq, xastq, xcopy, xcopyF, xobj, xmax, xmin, xdead, xpushq, xmna, ls0, List.map_cons, List.map_nil, List.length_cons, List.length_nil, List.replicate, List.append_nil, List.cons_append, List.nil_append, List.getElem?_cons_zero, List.getElem?_cons_succ, List.getElem?_nil, List.set_cons_zero, List.set_cons_succ, List.take_succ_cons, List.take_zero, List.drop_succ_cons, List.drop_zero, List.reverse_cons, List.reverse_nil, List.sum_cons, List.sum_nil, Value.category, Option.toList_some, Option.toList_none, Nat.reduceAdd, Nat.reduceSub, Nat.reduceLT, Nat.reduceLeDiff, Nat.zero_add, Nat.le_refl, true_and, and_true, Nat.sub_zero, Nat.zero_lt_succ, Nat.zero_le, Nat.not_lt_zero, Nat.reduceEqDiff, Nat.one_ne_zero, nI_toInt, Int.reduceEq, Int.reduceAdd, Int.reduceLT, Int.reduceLE, Int.cast_ofNat_Int, reduceIte, or_false, false_or, eq_self, or_true, true_or, or_self, nI_clamp, vp_in_nI, nI_ltI, nI_leI, nI_eq, nI_add, nI_zero9, nI_nlt0, nI_le0, nI_lt0, arG, va_rf, not_false_eq_true, not_true_eq_false, false_implies, true_implies, implies_true, ne_eq, okv_int, okv_z0, okv_z1, okv_zN, okv_ref, okv_arr, okv_null, vn_z0, vn_z1, vn_zN, nr_int, nr_z, va_up_self, up_fr, rw1_j, rw1_up]
      exact e32 _ M2 r2 d2 _ f2 (fun q hq => (fr2 q hq).trans (fr1 q (by omega))) ⟨_, _, _, _, _, _, _, _, _, hx2⟩ (fun z3 f3 hz3 g3 fr3 => hK3 _ M2 r2 d2 z3 f3 (by omega) hz3 (hI2.mono (by omega)) g3 fr3) _)
