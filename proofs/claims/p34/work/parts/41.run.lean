/-! the face: a text's orders carried out -/
def cDg (F : List Nat) : Nat := (F.filter (fun c => c = 68 ∨ c = 63)).length
theorem rFt_4 {T : List Nat} {s : Rs} : (rFt T s).2 4 = s 4 := by
  unfold rFt
  split
  · show (if (4 : Nat) = 0 then s 0 + 1 else if (4 : Nat) = 5 then 1 else if (4 : Nat) = (if s 5 = 0 then 2 else 3) then T.getD (s 0) 0 - 97 else s 4) = s 4
    rw [if_neg (by omega), if_neg (by omega), if_neg (by split <;> omega)]
  · rfl
theorem rSk_4 {T : List Nat} {c : Nat} {s : Rs} : (rSk T c s).2 4 = s 4 := by
  unfold rSk
  split <;> rfl
theorem rDg_4 {T : List Nat} {s : Rs} : (rDg T s).2 4 + 1 ≤ (s 4 + 1) * 10 := by
  unfold rDg
  by_cases q : inN T (s 0) 48 57
  · rw [if_pos q]
    obtain ⟨q0, q1, q2⟩ := q
    show 10 * s 4 + T.getD (s 0) 0 - 48 + 1 ≤ _
    omega
  · rw [if_neg q]
    show s 4 + 1 ≤ _
    omega
theorem rPt_4 {T : List Nat} {c : Nat} {s : Rs} : (rPt T c s).2 4 + 1 ≤ (s 4 + 1) * 10 ^ (if c = 68 ∨ c = 63 then 1 else 0) := by
  unfold rPt
  by_cases a : c = 70
  · subst a
    rw [if_pos rfl, rFt_4]
    simp
  · rw [if_neg a]
    by_cases b : c = 68
    · subst b
      rw [if_pos rfl]
      simpa using rDg_4
    · rw [if_neg b]
      by_cases e : c = 63
      · subst e
        rw [if_pos rfl]
        simpa using rDg_4
      · rw [if_neg e, rSk_4, if_neg (by omega)]
        simp
theorem rWd_4 {T : List Nat} : ∀ (F : List Nat) {s : Rs}, (rWd T F s).2 4 + 1 ≤ (s 4 + 1) * 10 ^ cDg F
  | [], s => by simp [rWd, cDg]
  | c :: F, s => by
    have h1 := rPt_4 (T := T) (c := c) (s := s)
    have h2 := rWd_4 F (s := (rPt T c s).2) (T := T)
    have e : cDg (c :: F) = (if c = 68 ∨ c = 63 then 1 else 0) + cDg F := by
      unfold cDg
      by_cases q : c = 68 ∨ c = 63
      · rw [List.filter_cons_of_pos (by simpa using q), if_pos q, List.length_cons]
        omega
      · rw [List.filter_cons_of_neg (by simpa using q), if_neg q, Nat.zero_add]
    rw [e, Nat.pow_add, ← Nat.mul_assoc]
    unfold rWd
    split
    · refine Nat.le_trans h1 ?_
      exact Nat.le_mul_of_pos_right _ (Nat.pow_pos (by omega))
    · exact Nat.le_trans h2 (Nat.mul_le_mul_right _ h1)
theorem formL_dg : ∀ k, k < 9 → cDg (formL k) ≤ 2 := by decide +kernel
theorem rOr_4 {T : List Nat} {s : Rs} (h : fkD T (s 0) 9 ≠ 9) : (rOr T s).2 4 < 100 := by
  unfold rOr
  rw [if_neg h]
  have hk := fkD_lt (T := T) (p := s 0) 9
  have h1 := rWd_4 (T := T) (formL (fkD T (s 0) 9)) (s := hup (hup (hup s 1 (fkD T (s 0) 9)) 5 0) 4 0)
  have h2 : 10 ^ cDg (formL (fkD T (s 0) 9)) ≤ 10 ^ 2 := Nat.pow_le_pow_right (by omega) (formL_dg _ (by omega))
  have h3 : hup (hup (hup s 1 (fkD T (s 0) 9)) 5 0) 4 0 4 = 0 := rfl
  rw [h3] at h1
  omega
theorem rOr_4' {T : List Nat} {s : Rs} (h : s 4 < 100) : (rOr T s).2 4 < 100 := by
  by_cases q : fkD T (s 0) 9 = 9
  · unfold rOr
    rw [if_pos q]
    exact h
  · exact rOr_4 q
theorem rCt_4 {T : List Nat} : ∀ (m o : Nat) {s : Rs}, s 4 < 100 → (rCt T m o s).2 4 < 100
  | 0, o, s, h => h
  | m + 1, o, s, h => by
    have h1 := rOr_4' (T := T) h
    unfold rCt
    split
    · exact h1
    split
    · exact h1
    split
    · rw [rSk_4]
      exact h1
    · refine rCt_4 m (o + 1) ?_
      rw [rSk_4]
      exact h1
theorem rCt_n4 {T : List Nat} {m o : Nat} {s : Rs} (h : (rCt T m o s).1 ≠ 0) : (rCt T m o s).2 4 < 100 := by
  cases m with
  | zero => exact absurd rfl h
  | succ m =>
    have h1 : (rOr T s).2 4 < 100 ∨ (rOr T s).1 = 0 := by
      by_cases q : fkD T (s 0) 9 = 9
      · right
        unfold rOr
        rw [if_pos q]
      · exact Or.inl (rOr_4 q)
    unfold rCt at h ⊢
    rcases h1 with h1 | h1
    · by_cases a : (rOr T s).1 = 0
      · rw [if_pos a]
        exact h1
      rw [if_neg a]
      by_cases b : (rOr T s).2 0 = T.length
      · rw [if_pos b]
        exact h1
      rw [if_neg b]
      by_cases c : (rSk T 59 (rOr T s).2).1 = 0
      · rw [if_pos c]
        show (rSk T 59 (rOr T s).2).2 4 < 100
        rw [rSk_4]
        exact h1
      · rw [if_neg c]
        refine rCt_4 m (o + 1) ?_
        rw [rSk_4]
        exact h1
    · rw [if_pos h1] at h
      exact absurd rfl h
theorem rCt_le {T : List Nat} : ∀ (m o : Nat) {s : Rs}, (rCt T m o s).1 ≤ o + m
  | 0, o, s => Nat.zero_le _
  | m + 1, o, s => by
    unfold rCt
    split
    · exact Nat.zero_le _
    split
    · show o ≤ _
      omega
    split
    · exact Nat.zero_le _
    · have := rCt_le (T := T) m (o + 1) (s := (rSk T 59 (rOr T s).2).2)
      omega
theorem rCt_ok {T : List Nat} : ∀ (m o : Nat) {s : Rs}, rOk T s → rOk T (rCt T m o s).2
  | 0, o, s, h => h
  | m + 1, o, s, h => by
    have h1 := (rOr_ok (T := T) h).1
    have h2 := (rSk_ok (c := 59) h1).1
    unfold rCt
    split
    · exact h1
    split
    · exact h1
    split
    · exact h2
    · exact rCt_ok m (o + 1) h2
def rGood (T : List Nat) : Prop := ∀ s : Rs, (rCt T 60 1 (hup s 0 0)).1 ≠ 0
theorem isOx.rd {V : Nat → Nat} {f f' : Fm} {b z : Nat} {M : Cm} {r d : Int32} {L : List Cm} {W : Option Cm} {T Ln : List Nat} {Mm Mt Ms : Cm} {rows : Nat → Cm} {fr : Nat} {rs rs' : Rs} {tv lv hs : Nat} (h : isOx V f b z M r d L W T Ln Mm Mt Ms rows fr rs tv lv hs) (hR : isRr V f' (b + 709) (b + 710) rs') (hrs : rs' 1 < 9 ∧ rs' 2 < 8 ∧ rs' 3 < 8 ∧ rs' 5 < 2) (hq : ∀ q, q ≠ b + 709 → f' q = f q) : isOx V f' b z M r d L W T Ln Mm Mt Ms rows fr rs' tv lv hs := by
  obtain ⟨h1, h2, h3, h4, h5, h6, ⟨dd, de, db, h7⟩, ⟨p1, p2, p3, p4, p5, p6, h8⟩, h9, h10, h11, h12, h13, h14, h15, h16, h17⟩ := id h
  have v1 := h11.v
  have v2 := h12.v
  exact h.hi ⟨dd, de, db, h7.fr' (fun q _ _ => hq q (by omega))⟩ ⟨p1, p2, p3, p4, p5, p6, h8.fr (fun q _ _ => hq q (by omega))⟩ hR hrs (h11.fr (Nat.le_refl _) (hq _ (by omega)) (hq _ (by omega))) (h12.fr (Nat.le_refl _) (hq _ (by omega)) (hq _ (by omega))) h13 h15 h16 (fun q _ => hq q (by omega))
theorem isOx.rX {V : Nat → Nat} {f : Fm} {b z : Nat} {M : Cm} {r d : Int32} {L : List Cm} {W : Option Cm} {T Ln : List Nat} {Mm Mt Ms : Cm} {rows : Nat → Cm} {fr : Nat} {rs : Rs} {tv lv hs : Nat} (h : isOx V f b z M r d L W T Ln Mm Mt Ms rows fr rs tv lv hs) (h0 : rs 0 ≤ T.length) : rX V f (b + 709) (b + 710) tv (b + 714) z T rs := by
  obtain ⟨h1, h2, h3, h4, h5, h6, h7, h8, h9, h10, h11, h12, h13, h14, h15, h16, h17⟩ := h
  have v1 := h11.v
  exact ⟨h9, ⟨h0, h10⟩, by omega, h16, h11, by omega, by omega, h14.mono (by omega)⟩
abbrev Sp_X12_carryOutAll (V : Nat → Nat) : Spt := fun as z f K => ∃ (n b : Nat) (M : Cm) (r d : Int32) (L : List Cm) (W : Option Cm) (T Ln : List Nat) (Mm Mt Ms : Cm) (rows : Nat → Cm) (fr : Nat) (rs : Rs) (tv lv hs B : Nat), as = [.ref b, .int (nI n)] ∧ n < 100 ∧ isOx V f b z M r d L W T Ln Mm Mt Ms rows fr rs tv lv hs ∧ rs 4 < 100 ∧ Inv B M ∧ (∀ d' f' Mm' rows' rs', isOx V f' b z M (nI 7) d' L W T Ln Mm' Mt Ms rows' fr rs' tv lv hs → (∀ q, q < b → f' q = f q) → K (some (.int (-14))) z f') ∧ ∀ f' M' r' d' Mm' rows' fr' rs', Inv (B + 30 * n) M' → isOx V f' b z M' r' d' ((M :: L).take 8) W T Ln Mm' Mt Ms rows' fr' rs' tv lv hs → (∀ q, q < b → f' q = f q) → K (some (.int (nI n))) z f'
def rm_X12_carryOutAll : Room := { frames := 8, cells := 0, slots := 0, locals := 173 }
def q_X12_carryOutAll_89 (V : Nat → Nat) (ls : Ls) (st : List Value) (z : Zz) (f : Fm) (E : Ej) (R : Kr) : Prop := xret .int ls st z f E R
def q_X12_carryOutAll_86 (V : Nat → Nat) (ls : Ls) (st : List Value) (z : Zz) (f : Fm) (E : Ej) (R : Kr) : Prop := xcall 2 12 Sp_X12_kept 0 0 (q_X12_carryOutAll_89 V) ls st z f E R
def q_X12_carryOutAll_85 (V : Nat → Nat) (ls : Ls) (st : List Value) (z : Zz) (f : Fm) (E : Ej) (R : Kr) : Prop := xiload 1 (q_X12_carryOutAll_86 V) ls st z f E R
def q_X12_carryOutAll_84 (V : Nat → Nat) (ls : Ls) (st : List Value) (z : Zz) (f : Fm) (E : Ej) (R : Kr) : Prop := xaload 0 (q_X12_carryOutAll_85 V) ls st z f E R
def q_X12_carryOutAll_78 (V : Nat → Nat) (ls : Ls) (st : List Value) (z : Zz) (f : Fm) (E : Ej) (R : Kr) : Prop := xiinc 2 (nI 1) (xs 21) ls st z f E R
def q_X12_carryOutAll_77 (V : Nat → Nat) (ls : Ls) (st : List Value) (z : Zz) (f : Fm) (E : Ej) (R : Kr) : Prop := xpop (q_X12_carryOutAll_78 V) ls st z f E R
def q_X12_carryOutAll_74 (V : Nat → Nat) (ls : Ls) (st : List Value) (z : Zz) (f : Fm) (E : Ej) (R : Kr) : Prop := xcall 1 7 (Sp_X7_skipSemicolon V) 0 0 (q_X12_carryOutAll_77 V) ls st z f E R
def q_X12_carryOutAll_71 (V : Nat → Nat) (ls : Ls) (st : List Value) (z : Zz) (f : Fm) (E : Ej) (R : Kr) : Prop := xget 11 7 (q_X12_carryOutAll_74 V) ls st z f E R
def q_X12_carryOutAll_70 (V : Nat → Nat) (ls : Ls) (st : List Value) (z : Zz) (f : Fm) (E : Ej) (R : Kr) : Prop := xaload 0 (q_X12_carryOutAll_71 V) ls st z f E R
def q_X12_carryOutAll_69 (V : Nat → Nat) (ls : Ls) (st : List Value) (z : Zz) (f : Fm) (E : Ej) (R : Kr) : Prop := xret .int ls st z f E R
def q_X12_carryOutAll_66 (V : Nat → Nat) (ls : Ls) (st : List Value) (z : Zz) (f : Fm) (E : Ej) (R : Kr) : Prop := xcall 3 11 Sp_X11_refuse 0 0 (q_X12_carryOutAll_69 V) ls st z f E R
def q_X12_carryOutAll_65 (V : Nat → Nat) (ls : Ls) (st : List Value) (z : Zz) (f : Fm) (E : Ej) (R : Kr) : Prop := xiload 2 (q_X12_carryOutAll_66 V) ls st z f E R
def q_X12_carryOutAll_63 (V : Nat → Nat) (ls : Ls) (st : List Value) (z : Zz) (f : Fm) (E : Ej) (R : Kr) : Prop := xpush (.int (nI 7)) (q_X12_carryOutAll_65 V) ls st z f E R
def q_X12_carryOutAll_60 (V : Nat → Nat) (ls : Ls) (st : List Value) (z : Zz) (f : Fm) (E : Ej) (R : Kr) : Prop := xget 11 0 (q_X12_carryOutAll_63 V) ls st z f E R
def q_X12_carryOutAll_59 (V : Nat → Nat) (ls : Ls) (st : List Value) (z : Zz) (f : Fm) (E : Ej) (R : Kr) : Prop := xaload 0 (q_X12_carryOutAll_60 V) ls st z f E R
def q_X12_carryOutAll_56 (V : Nat → Nat) (ls : Ls) (st : List Value) (z : Zz) (f : Fm) (E : Ej) (R : Kr) : Prop := xcall 2 6 Sp_X6_takeBackNoted 0 0 (q_X12_carryOutAll_59 V) ls st z f E R
def q_X12_carryOutAll_53 (V : Nat → Nat) (ls : Ls) (st : List Value) (z : Zz) (f : Fm) (E : Ej) (R : Kr) : Prop := xget 11 1 (q_X12_carryOutAll_56 V) ls st z f E R
def q_X12_carryOutAll_52 (V : Nat → Nat) (ls : Ls) (st : List Value) (z : Zz) (f : Fm) (E : Ej) (R : Kr) : Prop := xaload 0 (q_X12_carryOutAll_53 V) ls st z f E R
def q_X12_carryOutAll_49 (V : Nat → Nat) (ls : Ls) (st : List Value) (z : Zz) (f : Fm) (E : Ej) (R : Kr) : Prop := xget 11 4 (q_X12_carryOutAll_52 V) ls st z f E R
def q_X12_carryOutAll_48 (V : Nat → Nat) (ls : Ls) (st : List Value) (z : Zz) (f : Fm) (E : Ej) (R : Kr) : Prop := xaload 0 (q_X12_carryOutAll_49 V) ls st z f E R
def q_X12_carryOutAll_45 (V : Nat → Nat) (ls : Ls) (st : List Value) (z : Zz) (f : Fm) (E : Ej) (R : Kr) : Prop := xif (fun x => 0 ≤ x) (q_X12_carryOutAll_70 V) (q_X12_carryOutAll_48 V) ls st z f E R
def q_X12_carryOutAll_42 (V : Nat → Nat) (ls : Ls) (st : List Value) (z : Zz) (f : Fm) (E : Ej) (R : Kr) : Prop := xcall 2 11 (Sp_X11_carryOut V) 0 0 (q_X12_carryOutAll_45 V) ls st z f E R
def q_X12_carryOutAll_39 (V : Nat → Nat) (ls : Ls) (st : List Value) (z : Zz) (f : Fm) (E : Ej) (R : Kr) : Prop := xget 11 7 (q_X12_carryOutAll_42 V) ls st z f E R
def q_X12_carryOutAll_38 (V : Nat → Nat) (ls : Ls) (st : List Value) (z : Zz) (f : Fm) (E : Ej) (R : Kr) : Prop := xaload 0 (q_X12_carryOutAll_39 V) ls st z f E R
def q_X12_carryOutAll_35 (V : Nat → Nat) (ls : Ls) (st : List Value) (z : Zz) (f : Fm) (E : Ej) (R : Kr) : Prop := xget 11 0 (q_X12_carryOutAll_38 V) ls st z f E R
def q_X12_carryOutAll_34 (V : Nat → Nat) (ls : Ls) (st : List Value) (z : Zz) (f : Fm) (E : Ej) (R : Kr) : Prop := xaload 0 (q_X12_carryOutAll_35 V) ls st z f E R
def q_X12_carryOutAll_33 (V : Nat → Nat) (ls : Ls) (st : List Value) (z : Zz) (f : Fm) (E : Ej) (R : Kr) : Prop := xpop (q_X12_carryOutAll_34 V) ls st z f E R
def q_X12_carryOutAll_30 (V : Nat → Nat) (ls : Ls) (st : List Value) (z : Zz) (f : Fm) (E : Ej) (R : Kr) : Prop := xcall 1 7 (Sp_X7_readOrder V) 0 0 (q_X12_carryOutAll_33 V) ls st z f E R
def q_X12_carryOutAll_27 (V : Nat → Nat) (ls : Ls) (st : List Value) (z : Zz) (f : Fm) (E : Ej) (R : Kr) : Prop := xget 11 7 (q_X12_carryOutAll_30 V) ls st z f E R
def q_X12_carryOutAll_26 (V : Nat → Nat) (ls : Ls) (st : List Value) (z : Zz) (f : Fm) (E : Ej) (R : Kr) : Prop := xaload 0 (q_X12_carryOutAll_27 V) ls st z f E R
def q_X12_carryOutAll_23 (V : Nat → Nat) (ls : Ls) (st : List Value) (z : Zz) (f : Fm) (E : Ej) (R : Kr) : Prop := xicmp (fun x y => y ≤ x) (q_X12_carryOutAll_84 V) (q_X12_carryOutAll_26 V) ls st z f E R
def q_X12_carryOutAll_22 (V : Nat → Nat) (ls : Ls) (st : List Value) (z : Zz) (f : Fm) (E : Ej) (R : Kr) : Prop := xiload 1 (q_X12_carryOutAll_23 V) ls st z f E R
def q_X12_carryOutAll_21 (V : Nat → Nat) (ls : Ls) (st : List Value) (z : Zz) (f : Fm) (E : Ej) (R : Kr) : Prop := xiload 2 (q_X12_carryOutAll_22 V) ls st z f E R
def q_X12_carryOutAll_20 (V : Nat → Nat) (ls : Ls) (st : List Value) (z : Zz) (f : Fm) (E : Ej) (R : Kr) : Prop := xistore 2 (xs 21) ls st z f E R
def q_X12_carryOutAll_19 (V : Nat → Nat) (ls : Ls) (st : List Value) (z : Zz) (f : Fm) (E : Ej) (R : Kr) : Prop := xpush (.int (nI 0)) (q_X12_carryOutAll_20 V) ls st z f E R
def q_X12_carryOutAll_16 (V : Nat → Nat) (ls : Ls) (st : List Value) (z : Zz) (f : Fm) (E : Ej) (R : Kr) : Prop := xput 6 1 .int (q_X12_carryOutAll_19 V) ls st z f E R
def q_X12_carryOutAll_15 (V : Nat → Nat) (ls : Ls) (st : List Value) (z : Zz) (f : Fm) (E : Ej) (R : Kr) : Prop := xpush (.int (nI 0)) (q_X12_carryOutAll_16 V) ls st z f E R
def q_X12_carryOutAll_12 (V : Nat → Nat) (ls : Ls) (st : List Value) (z : Zz) (f : Fm) (E : Ej) (R : Kr) : Prop := xget 11 7 (q_X12_carryOutAll_15 V) ls st z f E R
def q_X12_carryOutAll_11 (V : Nat → Nat) (ls : Ls) (st : List Value) (z : Zz) (f : Fm) (E : Ej) (R : Kr) : Prop := xaload 0 (q_X12_carryOutAll_12 V) ls st z f E R
def q_X12_carryOutAll_8 (V : Nat → Nat) (ls : Ls) (st : List Value) (z : Zz) (f : Fm) (E : Ej) (R : Kr) : Prop := xcall 2 6 Sp_X6_note 0 0 (q_X12_carryOutAll_11 V) ls st z f E R
def q_X12_carryOutAll_5 (V : Nat → Nat) (ls : Ls) (st : List Value) (z : Zz) (f : Fm) (E : Ej) (R : Kr) : Prop := xget 11 1 (q_X12_carryOutAll_8 V) ls st z f E R
def q_X12_carryOutAll_4 (V : Nat → Nat) (ls : Ls) (st : List Value) (z : Zz) (f : Fm) (E : Ej) (R : Kr) : Prop := xaload 0 (q_X12_carryOutAll_5 V) ls st z f E R
def q_X12_carryOutAll_1 (V : Nat → Nat) (ls : Ls) (st : List Value) (z : Zz) (f : Fm) (E : Ej) (R : Kr) : Prop := xget 11 4 (q_X12_carryOutAll_4 V) ls st z f E R
def q_X12_carryOutAll_0 (V : Nat → Nat) (ls : Ls) (st : List Value) (z : Zz) (f : Fm) (E : Ej) (R : Kr) : Prop := xaload 0 (q_X12_carryOutAll_1 V) ls st z f E R
set_option maxRecDepth 100000 in
theorem t_X12_carryOutAll {s0 : State} {D : va_G} {ids : Nat → ClassId} {V : Nat → Nat} {l : Launch} {K : Kr} {E : Ej} (G : GG s0 D ids V) (X : EnX s0 D ids l RX12 cX12_carryOutAll 3 (some .int) "carryOutAll" rm_X12_carryOutAll K E) : Sd E K 0 (q_X12_carryOutAll_0 V) ∧ Sd E K 21 (q_X12_carryOutAll_21 V) := by
  have h89 : Sd E K 89 (q_X12_carryOutAll_89 V) := sd_ret X (by decide +kernel : decode cX12_carryOutAll 89 = .ok (.ireturn, 1))
  have h86 : Sd E K 86 (q_X12_carryOutAll_86 V) := sd_callV (n := 1) (ci := 11) X (ct_X12_kept G) (by decide +kernel : decode cX12_carryOutAll 86 = .ok (.invokevirtual 81, 3)) wd_451 wd_448 wd_450 wd_0 wd_24 (by decide +kernel) (Or.inl ⟨by decide, _, _, rfl⟩) ⟨Nat.le_of_ble_eq_true rfl, Nat.le_of_ble_eq_true rfl⟩ h89
  have h85 : Sd E K 85 (q_X12_carryOutAll_85 V) := sd_iload_n X (by decide +kernel : decode cX12_carryOutAll 85 = .ok (.iload_n 1, 1)) rfl h86
  have h84 : Sd E K 84 (q_X12_carryOutAll_84 V) := sd_aload_n X (by decide +kernel : decode cX12_carryOutAll 84 = .ok (.aload_n 0, 1)) rfl h85
  have h81 : Sd E K 81 (xs 21) := sd_goto X (by decide +kernel : decode cX12_carryOutAll 81 = .ok (.goto (-60), 3)) (by decide) (sd_s 21)
  have h78 : Sd E K 78 (q_X12_carryOutAll_78 V) := sd_iinc X (by decide +kernel : decode cX12_carryOutAll 78 = .ok (.iinc 2 1, 3)) (by decide +kernel) h81
  have h77 : Sd E K 77 (q_X12_carryOutAll_77 V) := sd_pop X (by decide +kernel : decode cX12_carryOutAll 77 = .ok (.pop, 1)) h78
  have h74 : Sd E K 74 (q_X12_carryOutAll_74 V) := sd_callV (n := 0) (ci := 6) X (ct_X7_skipSemicolon G) (by decide +kernel : decode cX12_carryOutAll 74 = .ok (.invokevirtual 319, 3)) wd_696 wd_741 wd_694 wd_695 wd_34 (by decide +kernel) (Or.inl ⟨by decide, _, _, rfl⟩) ⟨Nat.le_of_ble_eq_true rfl, Nat.le_of_ble_eq_true rfl⟩ h77
  have h71 : Sd E K 71 (q_X12_carryOutAll_71 V) := sd_get X (by decide +kernel : decode cX12_carryOutAll 71 = .ok (.getfield 54, 3)) ok_X12 (Nat.le_of_ble_eq_true rfl) wd_381 h74
  have h70 : Sd E K 70 (q_X12_carryOutAll_70 V) := sd_aload_n X (by decide +kernel : decode cX12_carryOutAll 70 = .ok (.aload_n 0, 1)) rfl h71
  have h69 : Sd E K 69 (q_X12_carryOutAll_69 V) := sd_ret X (by decide +kernel : decode cX12_carryOutAll 69 = .ok (.ireturn, 1))
  have h66 : Sd E K 66 (q_X12_carryOutAll_66 V) := sd_callV (n := 2) (ci := 10) X (ct_X11_refuse G) (by decide +kernel : decode cX12_carryOutAll 66 = .ok (.invokevirtual 204, 3)) wd_447 wd_740 wd_445 wd_446 wd_25 (by decide +kernel) (Or.inl ⟨by decide, _, _, rfl⟩) ⟨Nat.le_of_ble_eq_true rfl, Nat.le_of_ble_eq_true rfl⟩ h69
  have h65 : Sd E K 65 (q_X12_carryOutAll_65 V) := sd_iload_n X (by decide +kernel : decode cX12_carryOutAll 65 = .ok (.iload_n 2, 1)) rfl h66
  have h63 : Sd E K 63 (q_X12_carryOutAll_63 V) := sd_bipush X (by decide +kernel : decode cX12_carryOutAll 63 = .ok (.bipush 7, 2)) (by decide +kernel) h65
  have h60 : Sd E K 60 (q_X12_carryOutAll_60 V) := sd_get X (by decide +kernel : decode cX12_carryOutAll 60 = .ok (.getfield 10, 3)) ok_X12 (Nat.le_of_ble_eq_true rfl) wd_374 h63
  have h59 : Sd E K 59 (q_X12_carryOutAll_59 V) := sd_aload_n X (by decide +kernel : decode cX12_carryOutAll 59 = .ok (.aload_n 0, 1)) rfl h60
  have h56 : Sd E K 56 (q_X12_carryOutAll_56 V) := sd_callV (n := 1) (ci := 5) X (ct_X6_takeBackNoted G) (by decide +kernel : decode cX12_carryOutAll 56 = .ok (.invokevirtual 316, 3)) wd_739 wd_736 wd_737 wd_738 wd_31 (by decide +kernel) (Or.inl ⟨by decide, _, _, rfl⟩) ⟨Nat.le_of_ble_eq_true rfl, Nat.le_of_ble_eq_true rfl⟩ h59
  have h53 : Sd E K 53 (q_X12_carryOutAll_53 V) := sd_get X (by decide +kernel : decode cX12_carryOutAll 53 = .ok (.getfield 20, 3)) ok_X12 (Nat.le_of_ble_eq_true rfl) wd_375 h56
  have h52 : Sd E K 52 (q_X12_carryOutAll_52 V) := sd_aload_n X (by decide +kernel : decode cX12_carryOutAll 52 = .ok (.aload_n 0, 1)) rfl h53
  have h49 : Sd E K 49 (q_X12_carryOutAll_49 V) := sd_get X (by decide +kernel : decode cX12_carryOutAll 49 = .ok (.getfield 33, 3)) ok_X12 (Nat.le_of_ble_eq_true rfl) wd_378 h52
  have h48 : Sd E K 48 (q_X12_carryOutAll_48 V) := sd_aload_n X (by decide +kernel : decode cX12_carryOutAll 48 = .ok (.aload_n 0, 1)) rfl h49
  have h45 : Sd E K 45 (q_X12_carryOutAll_45 V) := sd_if_ge X (by decide +kernel : decode cX12_carryOutAll 45 = .ok (.ifCond .ge 25, 3)) (by decide) h70 h48
  have h42 : Sd E K 42 (q_X12_carryOutAll_42 V) := sd_callV (n := 1) (ci := 10) X (ct_X11_carryOut G) (by decide +kernel : decode cX12_carryOutAll 42 = .ok (.invokevirtual 312, 3)) wd_705 wd_702 wd_703 wd_704 wd_25 (by decide +kernel) (Or.inl ⟨by decide, _, _, rfl⟩) ⟨Nat.le_of_ble_eq_true rfl, Nat.le_of_ble_eq_true rfl⟩ h45
  have h39 : Sd E K 39 (q_X12_carryOutAll_39 V) := sd_get X (by decide +kernel : decode cX12_carryOutAll 39 = .ok (.getfield 54, 3)) ok_X12 (Nat.le_of_ble_eq_true rfl) wd_381 h42
  have h38 : Sd E K 38 (q_X12_carryOutAll_38 V) := sd_aload_n X (by decide +kernel : decode cX12_carryOutAll 38 = .ok (.aload_n 0, 1)) rfl h39
  have h35 : Sd E K 35 (q_X12_carryOutAll_35 V) := sd_get X (by decide +kernel : decode cX12_carryOutAll 35 = .ok (.getfield 10, 3)) ok_X12 (Nat.le_of_ble_eq_true rfl) wd_374 h38
  have h34 : Sd E K 34 (q_X12_carryOutAll_34 V) := sd_aload_n X (by decide +kernel : decode cX12_carryOutAll 34 = .ok (.aload_n 0, 1)) rfl h35
  have h33 : Sd E K 33 (q_X12_carryOutAll_33 V) := sd_pop X (by decide +kernel : decode cX12_carryOutAll 33 = .ok (.pop, 1)) h34
  have h30 : Sd E K 30 (q_X12_carryOutAll_30 V) := sd_callV (n := 0) (ci := 6) X (ct_X7_readOrder G) (by decide +kernel : decode cX12_carryOutAll 30 = .ok (.invokevirtual 308, 3)) wd_602 wd_701 wd_600 wd_601 wd_34 (by decide +kernel) (Or.inl ⟨by decide, _, _, rfl⟩) ⟨Nat.le_of_ble_eq_true rfl, Nat.le_of_ble_eq_true rfl⟩ h33
  have h27 : Sd E K 27 (q_X12_carryOutAll_27 V) := sd_get X (by decide +kernel : decode cX12_carryOutAll 27 = .ok (.getfield 54, 3)) ok_X12 (Nat.le_of_ble_eq_true rfl) wd_381 h30
  have h26 : Sd E K 26 (q_X12_carryOutAll_26 V) := sd_aload_n X (by decide +kernel : decode cX12_carryOutAll 26 = .ok (.aload_n 0, 1)) rfl h27
  have h23 : Sd E K 23 (q_X12_carryOutAll_23 V) := sd_icmp_ge X (by decide +kernel : decode cX12_carryOutAll 23 = .ok (.if_icmp .ge 61, 3)) (by decide) h84 h26
  have h22 : Sd E K 22 (q_X12_carryOutAll_22 V) := sd_iload_n X (by decide +kernel : decode cX12_carryOutAll 22 = .ok (.iload_n 1, 1)) rfl h23
  have h21 : Sd E K 21 (q_X12_carryOutAll_21 V) := sd_iload_n X (by decide +kernel : decode cX12_carryOutAll 21 = .ok (.iload_n 2, 1)) rfl h22
  have h20 : Sd E K 20 (q_X12_carryOutAll_20 V) := sd_istore_n X (by decide +kernel : decode cX12_carryOutAll 20 = .ok (.istore_n 2, 1)) rfl (sd_s 21)
  have h19 : Sd E K 19 (q_X12_carryOutAll_19 V) := sd_iconst X (by decide +kernel : decode cX12_carryOutAll 19 = .ok (.iconst 0, 1)) (by decide +kernel) h20
  have h16 : Sd E K 16 (q_X12_carryOutAll_16 V) := sd_put X (by decide +kernel : decode cX12_carryOutAll 16 = .ok (.putfield 234, 3)) ok_X7 (Nat.le_of_ble_eq_true rfl) rfl rfl wd_347 h19
  have h15 : Sd E K 15 (q_X12_carryOutAll_15 V) := sd_iconst X (by decide +kernel : decode cX12_carryOutAll 15 = .ok (.iconst 0, 1)) (by decide +kernel) h16
  have h12 : Sd E K 12 (q_X12_carryOutAll_12 V) := sd_get X (by decide +kernel : decode cX12_carryOutAll 12 = .ok (.getfield 54, 3)) ok_X12 (Nat.le_of_ble_eq_true rfl) wd_381 h15
  have h11 : Sd E K 11 (q_X12_carryOutAll_11 V) := sd_aload_n X (by decide +kernel : decode cX12_carryOutAll 11 = .ok (.aload_n 0, 1)) rfl h12
  have h8 : Sd E K 8 (q_X12_carryOutAll_8 V) := sd_callV (n := 1) (ci := 5) X (ct_X6_note G) (by decide +kernel : decode cX12_carryOutAll 8 = .ok (.invokevirtual 73, 3)) wd_415 wd_412 wd_413 wd_414 wd_31 (by decide +kernel) (Or.inl ⟨by decide, _, _, rfl⟩) ⟨Nat.le_of_ble_eq_true rfl, Nat.le_of_ble_eq_true rfl⟩ h11
  have h5 : Sd E K 5 (q_X12_carryOutAll_5 V) := sd_get X (by decide +kernel : decode cX12_carryOutAll 5 = .ok (.getfield 20, 3)) ok_X12 (Nat.le_of_ble_eq_true rfl) wd_375 h8
  have h4 : Sd E K 4 (q_X12_carryOutAll_4 V) := sd_aload_n X (by decide +kernel : decode cX12_carryOutAll 4 = .ok (.aload_n 0, 1)) rfl h5
  have h1 : Sd E K 1 (q_X12_carryOutAll_1 V) := sd_get X (by decide +kernel : decode cX12_carryOutAll 1 = .ok (.getfield 33, 3)) ok_X12 (Nat.le_of_ble_eq_true rfl) wd_378 h4
  have h0 : Sd E K 0 (q_X12_carryOutAll_0 V) := sd_aload_n X (by decide +kernel : decode cX12_carryOutAll 0 = .ok (.aload_n 0, 1)) rfl h1
  exact ⟨h0, h21⟩
set_option maxHeartbeats 4000000 in
set_option maxRecDepth 100000 in
theorem ct_X12_carryOutAll {s0 : State} {D : va_G} {ids : Nat → ClassId} {V : Nat → Nat} {l : Launch} (G : GG s0 D ids V) : CT s0 D ids l yX12_carryOutAll cX12_carryOutAll 3 (some .int) rm_X12_carryOutAll (Sp_X12_carryOutAll V) := CT.of (by decide +kernel) G.k (by
  rintro as z f K E ⟨n, b, M, r, d, L, W, T, Ln, Mm, Mt, Ms, rows, fr, rs, tv, lv, hs, B, rfl, hn, hx, h4, hI, hK1, hK2⟩ X
  obtain ⟨t0, t21⟩ := t_X12_carryOutAll G X
  refine ⟨Nat.le_of_ble_eq_true rfl, by simp [Value.category], t0 _ _ _ _ ?_⟩
  obtain ⟨h1, h2, h3, h3', h5, h6, -, -, h9, h10, -⟩ := id hx
  unfold oB at h1
  simp (disch := omega) only [q_X12_carryOutAll_0, q_X12_carryOutAll_1, q_X12_carryOutAll_4, q_X12_carryOutAll_5, q_X12_carryOutAll_8, q_X12_carryOutAll_11, q_X12_carryOutAll_12, q_X12_carryOutAll_15, q_X12_carryOutAll_16, q_X12_carryOutAll_19, q_X12_carryOutAll_20, q_X12_carryOutAll_21, q_X12_carryOutAll_22, q_X12_carryOutAll_23, q_X12_carryOutAll_26, q_X12_carryOutAll_27, q_X12_carryOutAll_30, q_X12_carryOutAll_33, q_X12_carryOutAll_34, q_X12_carryOutAll_35, q_X12_carryOutAll_38, q_X12_carryOutAll_39, q_X12_carryOutAll_42, q_X12_carryOutAll_45, q_X12_carryOutAll_48, q_X12_carryOutAll_49, q_X12_carryOutAll_52, q_X12_carryOutAll_53, q_X12_carryOutAll_56, q_X12_carryOutAll_59, q_X12_carryOutAll_60, q_X12_carryOutAll_63, q_X12_carryOutAll_65, q_X12_carryOutAll_66, q_X12_carryOutAll_69, q_X12_carryOutAll_70, q_X12_carryOutAll_71, q_X12_carryOutAll_74, q_X12_carryOutAll_77, q_X12_carryOutAll_78, q_X12_carryOutAll_84, q_X12_carryOutAll_85, q_X12_carryOutAll_86, q_X12_carryOutAll_89, xpush, xiload, xaload, xlload, xfload, xdload, lkill, xistore, xastore, xfstore, xlstore, xdstore, xiinc, xbin, xdiv, xun, xlbin, xi2l, xi2f, xi2d, xlcmp, xfcmp, xdcmp, xfdiv, xddiv, c1, xdup, xpop, xdup_x1, xdup2, xif, xicmp, xtab, xtabL, xget, xput, xald, xast, xalen, xnew, xnewa, c1s, recvOk, xcall, kont, xret, xlret, xfret, xdret, xaret, xvret, xs, xnewq, xastq, xcopy, xcopyF, xobj, xmax, xmin, xdead, xpushq, xmna, ls0, List.map_cons, List.map_nil, List.length_cons, List.length_nil, List.replicate, List.append_nil, List.cons_append, List.nil_append, List.getElem?_cons_zero, List.getElem?_cons_succ, List.getElem?_nil, List.set_cons_zero, List.set_cons_succ, List.take_succ_cons, List.take_zero, List.drop_succ_cons, List.drop_zero, List.reverse_cons, List.reverse_nil, List.sum_cons, List.sum_nil, Value.category, Option.toList_some, Option.toList_none, Nat.reduceAdd, Nat.reduceSub, Nat.reduceLT, Nat.reduceLeDiff, Nat.zero_add, Nat.le_refl, true_and, and_true, Nat.sub_zero, Nat.zero_lt_succ, Nat.zero_le, Nat.not_lt_zero, Nat.reduceEqDiff, Nat.one_ne_zero, nI_toInt, Int.reduceEq, Int.reduceAdd, Int.reduceLT, Int.reduceLE, Int.cast_ofNat_Int, reduceIte, or_false, false_or, eq_self, or_true, true_or, or_self, nI_clamp, vp_in_nI, nI_ltI, nI_leI, nI_eq, nI_add, nI_zero9, nI_nlt0, nI_le0, nI_lt0, arG, va_rf, not_false_eq_true, not_true_eq_false, false_implies, true_implies, implies_true, ne_eq, okv_int, okv_z0, okv_z1, okv_zN, okv_ref, okv_arr, okv_null, vn_z0, vn_z1, vn_zN, nr_int, nr_z, va_up_self, up_fr, rw1_j, rw1_up, h1, h5.1]
  refine ⟨b + 205, b + 2, rows, fr, _, M, rfl, h6.1, h5, h2.2.1, hI.1.1.1, by omega, fun f1 g1 fr1 => ?_⟩
  have b1 : f1 b = f b := fr1 b (by omega)
  have r1 : f1 (b + 709) = f (b + 709) := fr1 _ (by omega)
  unfold isRr at h9
  simp (disch := omega) only [q_X12_carryOutAll_0, q_X12_carryOutAll_1, q_X12_carryOutAll_4, q_X12_carryOutAll_5, q_X12_carryOutAll_8, q_X12_carryOutAll_11, q_X12_carryOutAll_12, q_X12_carryOutAll_15, q_X12_carryOutAll_16, q_X12_carryOutAll_19, q_X12_carryOutAll_20, q_X12_carryOutAll_21, q_X12_carryOutAll_22, q_X12_carryOutAll_23, q_X12_carryOutAll_26, q_X12_carryOutAll_27, q_X12_carryOutAll_30, q_X12_carryOutAll_33, q_X12_carryOutAll_34, q_X12_carryOutAll_35, q_X12_carryOutAll_38, q_X12_carryOutAll_39, q_X12_carryOutAll_42, q_X12_carryOutAll_45, q_X12_carryOutAll_48, q_X12_carryOutAll_49, q_X12_carryOutAll_52, q_X12_carryOutAll_53, q_X12_carryOutAll_56, q_X12_carryOutAll_59, q_X12_carryOutAll_60, q_X12_carryOutAll_63, q_X12_carryOutAll_65, q_X12_carryOutAll_66, q_X12_carryOutAll_69, q_X12_carryOutAll_70, q_X12_carryOutAll_71, q_X12_carryOutAll_74, q_X12_carryOutAll_77, q_X12_carryOutAll_78, q_X12_carryOutAll_84, q_X12_carryOutAll_85, q_X12_carryOutAll_86, q_X12_carryOutAll_89, xpush, xiload, xaload, xlload, xfload, xdload, lkill, xistore, xastore, xfstore, xlstore, xdstore, xiinc, xbin, xdiv, xun, xlbin, xi2l, xi2f, xi2d, xlcmp, xfcmp, xdcmp, xfdiv, xddiv, c1, xdup, xpop, xdup_x1, xdup2, xif, xicmp, xtab, xtabL, xget, xput, xald, xast, xalen, xnew, xnewa, c1s, recvOk, xcall, kont, xret, xlret, xfret, xdret, xaret, xvret, xs, xnewq, xastq, xcopy, xcopyF, xobj, xmax, xmin, xdead, xpushq, xmna, ls0, List.map_cons, List.map_nil, List.length_cons, List.length_nil, List.replicate, List.append_nil, List.cons_append, List.nil_append, List.getElem?_cons_zero, List.getElem?_cons_succ, List.getElem?_nil, List.set_cons_zero, List.set_cons_succ, List.take_succ_cons, List.take_zero, List.drop_succ_cons, List.drop_zero, List.reverse_cons, List.reverse_nil, List.sum_cons, List.sum_nil, Value.category, Option.toList_some, Option.toList_none, Nat.reduceAdd, Nat.reduceSub, Nat.reduceLT, Nat.reduceLeDiff, Nat.zero_add, Nat.le_refl, true_and, and_true, Nat.sub_zero, Nat.zero_lt_succ, Nat.zero_le, Nat.not_lt_zero, Nat.reduceEqDiff, Nat.one_ne_zero, nI_toInt, Int.reduceEq, Int.reduceAdd, Int.reduceLT, Int.reduceLE, Int.cast_ofNat_Int, reduceIte, or_false, false_or, eq_self, or_true, true_or, or_self, nI_clamp, vp_in_nI, nI_ltI, nI_leI, nI_eq, nI_add, nI_zero9, nI_nlt0, nI_le0, nI_lt0, arG, va_rf, not_false_eq_true, not_true_eq_false, false_implies, true_implies, implies_true, ne_eq, okv_int, okv_z0, okv_z1, okv_zN, okv_ref, okv_arr, okv_null, vn_z0, vn_z1, vn_zN, nr_int, nr_z, va_up_self, up_fr, rw1_j, rw1_up, b1, h1, r1, h9]
  skip)
