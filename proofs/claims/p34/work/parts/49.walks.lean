/-! how far forts are -/
/-- a walk: from i over n roads to j, x leagues -/
def WkN (w : Nat → Nat → Nat) (i : Nat) : Nat → Nat → Nat → Prop
  | 0, j, x => j = i ∧ x = 0
  | n + 1, k, x => ∃ j y, WkN w i n j y ∧ 0 < w j k ∧ x = y + w j k
def Wk (w : Nat → Nat → Nat) (i j n x : Nat) : Prop := WkN w i n j x
theorem Wk.nil {w : Nat → Nat → Nat} {i : Nat} : Wk w i i 0 0 := ⟨rfl, rfl⟩
theorem Wk.snoc {w : Nat → Nat → Nat} {i j k n x : Nat} (h : Wk w i j n x) (hp : 0 < w j k) : Wk w i k (n + 1) (x + w j k) := ⟨j, x, h, hp, rfl⟩
theorem Wk.ind {w : Nat → Nat → Nat} {i : Nat} {P : Nat → Nat → Nat → Prop} (h0 : P i 0 0) (hs : ∀ j k n x, Wk w i j n x → 0 < w j k → P j n x → P k (n + 1) (x + w j k)) : ∀ n j x, Wk w i j n x → P j n x
  | 0, j, x, h => by
    obtain ⟨rfl, rfl⟩ := h
    exact h0
  | n + 1, k, x, h => by
    obtain ⟨j, y, h1, h2, rfl⟩ := h
    exact hs j k n y h1 h2 (Wk.ind h0 hs n j y h1)
theorem Wk.cons {w : Nat → Nat → Nat} {i k j n x : Nat} (h0 : 0 < w i k) (h : Wk w k j n x) : Wk w i j (n + 1) (w i k + x) := by
  refine Wk.ind (P := fun j n x => Wk w i j (n + 1) (w i k + x)) ?_ ?_ n j x h
  · have h9 : Wk w i k 1 (0 + w i k) := Wk.snoc (Wk.nil (w := w) (i := i)) h0
    have e9 : 0 + w i k = w i k + 0 := by omega
    rw [e9] at h9
    exact h9
  · intro j l n x h1 h2 ih
    have h9 : Wk w i l (n + 1 + 1) (w i k + x + w j l) := ih.snoc h2
    rw [Nat.add_assoc (w i k) x (w j l)] at h9
    exact h9
theorem Wk.rev {w : Nat → Nat → Nat} (hs : ∀ a b, w a b = w b a) {i j n x : Nat} (h : Wk w i j n x) : Wk w j i n x := by
  refine Wk.ind (P := fun j n x => Wk w j i n x) Wk.nil ?_ n j x h
  intro j k n x h1 h2 ih
  have h3 := Wk.cons (k := j) (i := k) (by rw [hs]; exact h2) ih
  rw [hs k j, Nat.add_comm (w j k) x] at h3
  exact h3
/-- d is how far all is from i -/
def isD (w : Nat → Nat → Nat) (i : Nat) (d : Nat → Nat) : Prop := (∀ j, d j ≤ 1000) ∧ (∀ j n x, Wk w i j n x → d j ≤ x) ∧ ∀ j, d j < 1000 → ∃ n, Wk w i j n (d j)
theorem isD.sym {w : Nat → Nat → Nat} {i j : Nat} {d d' : Nat → Nat} (hs : ∀ a b, w a b = w b a) (h : isD w i d) (h' : isD w j d') : d j = d' i := by
  obtain ⟨a1, a2, a3⟩ := h
  obtain ⟨b1, b2, b3⟩ := h'
  have hj := a1 j
  have hi := b1 i
  by_cases p : d j < 1000
  · obtain ⟨n, hn⟩ := a3 j p
    have q1 := b2 i n _ (hn.rev hs)
    obtain ⟨m, hm⟩ := b3 i (by omega)
    have q2 := a2 j m _ (hm.rev hs)
    omega
  · by_cases q : d' i < 1000
    · obtain ⟨m, hm⟩ := b3 i q
      have q2 := a2 j m _ (hm.rev hs)
      omega
    · omega
theorem isD.self {w : Nat → Nat → Nat} {i : Nat} {d : Nat → Nat} (h : isD w i d) : d i = 0 := Nat.le_zero.mp (h.2.1 i 0 0 Wk.nil)
theorem isD.of {w : Nat → Nat → Nat} {i : Nat} {d : Nat → Nat} (h0 : d i = 0) (h1 : ∀ j, d j ≤ 1000) (h2 : ∀ j k, 0 < w j k → d k ≤ d j + w j k) (h3 : ∀ j, d j < 1000 → ∃ n, Wk w i j n (d j)) : isD w i d := ⟨h1, fun j n x h => Wk.ind (P := fun j _ x => d j ≤ x) (by omega) (fun j k n x _ h5 ih => by
    have := h2 _ _ h5
    omega) n j x h, h3⟩
/-! nearest first -/
theorem rlx_at {M : Cm} {n : Nat} {d : Nat → Nat} (hn : M 1 n n = 0) : ∀ k j, rlx M n d k j = if j < k ∧ 0 < M 1 n j then min (d j) (d n + M 1 n j) else d j
  | 0, j => by
    rw [if_neg (by omega)]
    rfl
  | k + 1, j => by
    have ih := rlx_at (M := M) (d := d) hn k
    unfold rlx
    by_cases q : 0 < M 1 n k
    · rw [if_pos q]
      unfold hup
      by_cases e : j = k
      · subst e
        rw [if_pos rfl, if_pos ⟨by omega, q⟩, ih j, ih n, if_neg (by omega), if_neg (by omega)]
      · rw [if_neg e, ih j]
        by_cases l : j < k ∧ 0 < M 1 n j
        · rw [if_pos l, if_pos ⟨by omega, l.2⟩]
        · rw [if_neg l, if_neg (by omega)]
    · rw [if_neg q, ih j]
      by_cases e : j = k
      · subst e
        rw [if_neg (by omega), if_neg (by omega)]
      · by_cases l : j < k ∧ 0 < M 1 n j
        · rw [if_pos l, if_pos ⟨by omega, l.2⟩]
        · rw [if_neg l, if_neg (by omega)]
theorem fnN_min (d b : Nat → Nat) : ∀ k j, j < k → b j = 0 → b (fnN d b k) = 0 ∧ d (fnN d b k) ≤ d j
  | k + 1, j, hj, hb => by
    unfold fnN
    by_cases e0 : k = 0
    · subst e0
      rw [if_pos rfl]
      obtain rfl : j = 0 := by omega
      exact ⟨hb, Nat.le_refl _⟩
    · rw [if_neg e0]
      by_cases e : j = k
      · subst e
        split
        · exact ⟨hb, Nat.le_refl _⟩
        · rename_i q
          omega
      · have ih := fnN_min d b k j (by omega) hb
        split
        · rename_i q
          rcases q with q | q
          · exact absurd ih.1 q
          · exact ⟨q.1, by omega⟩
        · exact ih
theorem cntN_ex {p : Nat → Prop} [DecidablePred p] : ∀ n, 0 < cntN p n → ∃ x, x < n ∧ p x
  | 0, h => absurd h (Nat.lt_irrefl 0)
  | n + 1, h => by
    by_cases q : p n
    · exact ⟨n, by omega, q⟩
    · unfold cntN at h
      rw [if_neg q] at h
      obtain ⟨x, h1, h2⟩ := cntN_ex n h
      exact ⟨x, by omega, h2⟩
theorem cntN_all {p : Nat → Prop} [DecidablePred p] (h : ∀ x, p x) : ∀ n, cntN p n = n
  | 0 => rfl
  | n + 1 => by
    unfold cntN
    rw [cntN_all h n, if_pos (h n)]
/-- what the nearest-first way keeps -/
def okDj (M : Cm) (F i k : Nat) (d b : Nat → Nat) : Prop := d i = 0 ∧ (∀ j, d j < 1000 → ∃ n, n ≤ k ∧ Wk (M 1) i j n (d j)) ∧ (∀ u v, ¬ b u = 0 → 0 < M 1 u v → d v ≤ d u + M 1 u v) ∧ (∀ u v, v < F → ¬ b u = 0 → b v = 0 → d u ≤ d v) ∧ cntN (fun j => b j = 0) F = F - k
theorem okDj.go {M : Cm} {F i k : Nat} {d b : Nat → Nat} (hz : ∀ u, M 1 u u = 0) (hF : ∀ u v, 0 < M 1 u v → v < F) (hk : k < F) (h : okDj M F i k d b) : okDj M F i (k + 1) (rlx M (fnN d b F) d F) (hup b (fnN d b F) 1) := by
  obtain ⟨h1, h2, h3, h4, h5⟩ := h
  obtain ⟨x, hx, hbx⟩ := cntN_ex F (by rw [h5]; omega)
  have hn := fnN_lt d b F (by omega)
  have hm := fun j => fnN_min d b F j
  have hb := (hm x hx hbx).1
  generalize fnN d b F = n at *
  have e : ∀ j, rlx M n d F j = if 0 < M 1 n j then min (d j) (d n + M 1 n j) else d j := fun j => by
    rw [rlx_at (hz n)]
    by_cases q : 0 < M 1 n j
    · rw [if_pos q, if_pos ⟨hF n j q, q⟩]
    · rw [if_neg q, if_neg (by omega)]
  have en : rlx M n d F n = d n := by
    rw [e n, if_neg (by have := hz n; omega)]
  have eo : ∀ u, ¬ b u = 0 → rlx M n d F u = d u := fun u hu => by
    have := h4 u n hn hu hb
    rw [e u]
    split <;> omega
  have le : ∀ u, rlx M n d F u ≤ d u := fun u => by
    rw [e u]
    split <;> omega
  refine ⟨?_, fun j hj => ?_, fun u v hu hv => ?_, fun u v hv hu hv0 => ?_, ?_⟩
  · have := le i
    omega
  · by_cases q : rlx M n d F j = d j
    · rw [q] at hj ⊢
      obtain ⟨m, hm1, hm2⟩ := h2 j hj
      exact ⟨m, by omega, hm2⟩
    · have ej := e j
      have hp : 0 < M 1 n j := by
        by_cases p : 0 < M 1 n j
        · exact p
        · rw [if_neg p] at ej
          exact absurd ej q
      rw [if_pos hp] at ej
      have ej2 : rlx M n d F j = d n + M 1 n j := by omega
      rw [ej2] at hj ⊢
      obtain ⟨m, hm1, hm2⟩ := h2 n (by omega)
      exact ⟨m + 1, by omega, hm2.snoc hp⟩
  · by_cases q : u = n
    · subst q
      rw [en, e v, if_pos hv]
      omega
    · have hu' : ¬ b u = 0 := by
        unfold hup at hu
        rw [if_neg q] at hu
        exact hu
      rw [eo u hu']
      have := h3 u v hu' hv
      have := le v
      omega
  · have hvn : v ≠ n ∧ b v = 0 := by
      unfold hup at hv0
      by_cases p : v = n
      · rw [if_pos p] at hv0
        omega
      · rw [if_neg p] at hv0
        exact ⟨p, hv0⟩
    have hmv := (hm v hv hvn.2).2
    have key : d n ≤ rlx M n d F v := by
      rw [e v]
      split <;> omega
    by_cases q : u = n
    · subst q
      rw [en]
      exact key
    · have hu' : ¬ b u = 0 := by
        unfold hup at hu
        rw [if_neg q] at hu
        exact hu
      rw [eo u hu']
      have := h4 u n hn hu' hb
      omega
  · have := cntN_one (p := fun j => hup b n 1 j = 0) (q := fun j => b j = 0) (x := n) (fun k hk => by
      show b k = 0 ↔ hup b n 1 k = 0
      unfold hup
      rw [if_neg hk]) hb (by show ¬ hup b n 1 n = 0; unfold hup; rw [if_pos rfl]; omega) F
    rw [if_pos hn] at this
    omega
theorem dj_ok {M : Cm} {F i : Nat} (hz : ∀ u, M 1 u u = 0) (hF : ∀ u v, 0 < M 1 u v → v < F) : ∀ k, k ≤ F → okDj M F i k (dj M F i k).1 (dj M F i k).2
  | 0, _ => by
    refine ⟨if_pos rfl, fun j hj => ?_, fun u v hu => absurd rfl hu, fun u v hv hu => absurd rfl hu, ?_⟩
    · show ∃ n, n ≤ 0 ∧ Wk (M 1) i j n (if j = i then 0 else 1000)
      have hj' : (if j = i then 0 else 1000) < 1000 := hj
      by_cases e : j = i
      · subst e
        rw [if_pos rfl]
        exact ⟨0, Nat.le_refl _, Wk.nil⟩
      · rw [if_neg e] at hj'
        omega
    · exact cntN_all (p := fun j => (dj M F i 0).2 j = 0) (fun x => rfl) F
  | k + 1, h => (dj_ok hz hF k (by omega)).go hz hF (by omega)
theorem far_walk {M : Cm} {i : Nat} (hz : ∀ u, M 1 u u = 0) (hF : ∀ u v, 0 < M 1 u v → v < M 11 0 2) {j : Nat} (h : farN M i j < 1000) : ∃ n, n ≤ M 11 0 2 ∧ Wk (M 1) i j n (farN M i j) := (dj_ok hz hF _ (Nat.le_refl _)).2.1 j h
theorem far_isD {M : Cm} {i : Nat} (hs : ∀ a b, M 1 a b = M 1 b a) (hz : ∀ u, M 1 u u = 0) (hF : ∀ u v, 0 < M 1 u v → v < M 11 0 2) : isD (M 1) i (farN M i) := by
  have h := dj_ok (i := i) hz hF _ (Nat.le_refl (M 11 0 2))
  obtain ⟨h1, h2, h3, h4, h5⟩ := h
  refine isD.of h1 (fun j => (dj_le _).1 j) (fun j k hk => h3 j k (fun e => ?_) hk) (fun j hj => ?_)
  · have := cntN_pos (p := fun j => (dj M (M 11 0 2) i (M 11 0 2)).2 j = 0) e (M 11 0 2) (hF k j (by rw [hs]; exact hk))
    omega
  · obtain ⟨n, -, hn⟩ := h2 j hj
    exact ⟨n, hn⟩
/-! road by road -/
def wkQ (M : Cm) (i : Nat) (d : Nat → Nat) : Prop := (∀ j, d j ≤ 1000) ∧ ∀ j, d j < 1000 → ∃ n, Wk (M 1) i j n (d j)
theorem lsS_le {M : Cm} {o k : Nat} {s : (Nat → Nat) × Nat} (j : Nat) : (lsS M o k s).1 j ≤ s.1 j := by
  unfold lsS
  split
  · show hup _ _ _ j ≤ _
    unfold hup
    split
    · rename_i q e
      rw [e]
      omega
    · exact Nat.le_refl _
  · exact Nat.le_refl _
theorem lsS_f {M : Cm} {o k : Nat} {s : (Nat → Nat) × Nat} (h : (lsS M o k s).2 = 0) : lsS M o k s = s := by
  unfold lsS at h ⊢
  split at h
  · exact absurd h (by show ¬ (1 : Nat) = 0; omega)
  · rename_i q
    rw [if_neg q]
theorem lsS_r {M : Cm} {o k : Nat} {s : (Nat → Nat) × Nat} (h : 0 < M 1 o k) : (lsS M o k s).1 k ≤ s.1 o + M 1 o k := by
  unfold lsS
  split
  · show hup _ _ _ k ≤ _
    unfold hup
    rw [if_pos rfl]
    exact Nat.le_refl _
  · omega
theorem lsS_q {M : Cm} {i o k : Nat} {s : (Nat → Nat) × Nat} (h : wkQ M i s.1) : wkQ M i (lsS M o k s).1 := by
  refine ⟨fun j => Nat.le_trans (lsS_le j) (h.1 j), fun j hj => ?_⟩
  unfold lsS at hj ⊢
  by_cases q : 0 < M 1 o k ∧ s.1 o + M 1 o k < s.1 k
  · rw [if_pos q] at hj ⊢
    by_cases e : j = k
    · subst e
      have e2 : hup s.1 j (s.1 o + M 1 o j) j = s.1 o + M 1 o j := if_pos rfl
      show ∃ n, Wk _ _ _ n (hup s.1 j (s.1 o + M 1 o j) j)
      rw [e2]
      have := h.1 j
      obtain ⟨n, hn⟩ := h.2 o (by omega)
      exact ⟨n + 1, hn.snoc q.1⟩
    · have e2 : hup s.1 k (s.1 o + M 1 o k) j = s.1 j := if_neg e
      have hj2 : hup s.1 k (s.1 o + M 1 o k) j < 1000 := hj
      rw [e2] at hj2
      show ∃ n, Wk _ _ _ n (hup s.1 k (s.1 o + M 1 o k) j)
      rw [e2]
      exact h.2 j hj2
  · rw [if_neg q] at hj ⊢
    exact h.2 j hj
theorem lsR_le {M : Cm} {o : Nat} {s : (Nat → Nat) × Nat} : ∀ m j, (lsR M o s m).1 j ≤ s.1 j
  | 0, j => Nat.le_refl _
  | m + 1, j => Nat.le_trans (lsS_le j) (lsR_le m j)
theorem lsR_f {M : Cm} {o : Nat} {s : (Nat → Nat) × Nat} : ∀ m, (lsR M o s m).2 = 0 → lsR M o s m = s
  | 0, _ => rfl
  | m + 1, h => by
    have h1 : lsS M o m (lsR M o s m) = lsR M o s m := lsS_f h
    have h2 : lsR M o s (m + 1) = lsR M o s m := h1
    rw [h2] at h ⊢
    exact lsR_f m h
theorem lsR_r {M : Cm} {o : Nat} {s : (Nat → Nat) × Nat} : ∀ m k, k < m → 0 < M 1 o k → (lsR M o s m).1 k ≤ s.1 o + M 1 o k
  | m + 1, k, hk, hp => by
    by_cases e : k = m
    · subst e
      have := lsS_r (s := lsR M o s k) hp
      have := lsR_le (M := M) (o := o) (s := s) k o
      show (lsS M o k (lsR M o s k)).1 k ≤ _
      omega
    · exact Nat.le_trans (lsS_le k) (lsR_r m k (by omega) hp)
theorem lsR_q {M : Cm} {i o : Nat} {s : (Nat → Nat) × Nat} (h : wkQ M i s.1) : ∀ m, wkQ M i (lsR M o s m).1
  | 0 => h
  | m + 1 => lsS_q (lsR_q h m)
theorem lsA_le {M : Cm} {F : Nat} {s : (Nat → Nat) × Nat} : ∀ m j, (lsA M F s m).1 j ≤ s.1 j
  | 0, j => Nat.le_refl _
  | m + 1, j => Nat.le_trans (lsR_le F j) (lsA_le m j)
theorem lsA_f {M : Cm} {F : Nat} {s : (Nat → Nat) × Nat} : ∀ m, (lsA M F s m).2 = 0 → lsA M F s m = s
  | 0, _ => rfl
  | m + 1, h => by
    have h1 : lsR M m (lsA M F s m) F = lsA M F s m := lsR_f F h
    have h2 : lsA M F s (m + 1) = lsA M F s m := h1
    rw [h2] at h ⊢
    exact lsA_f m h
theorem lsA_r {M : Cm} {F : Nat} {s : (Nat → Nat) × Nat} : ∀ m o k, o < m → k < F → 0 < M 1 o k → (lsA M F s m).1 k ≤ s.1 o + M 1 o k
  | m + 1, o, k, ho, hk, hp => by
    by_cases e : o = m
    · subst e
      have := lsR_r (s := lsA M F s o) F k hk hp
      have := lsA_le (M := M) (F := F) (s := s) o o
      show (lsR M o (lsA M F s o) F).1 k ≤ _
      omega
    · exact Nat.le_trans (lsR_le F k) (lsA_r m o k (by omega) hk hp)
theorem lsA_q {M : Cm} {i F : Nat} {s : (Nat → Nat) × Nat} (h : wkQ M i s.1) : ∀ m, wkQ M i (lsA M F s m).1
  | 0 => h
  | m + 1 => lsR_q (lsA_q h m) F
theorem rbr_q {M : Cm} {F i : Nat} : ∀ k, wkQ M i (rbr M F i k).1
  | 0 => by
    refine ⟨fun j => ?_, fun j hj => ?_⟩
    · show (if j = i then 0 else 1000) ≤ 1000
      split <;> omega
    · show ∃ n, Wk (M 1) i j n (if j = i then 0 else 1000)
      have hj' : (if j = i then 0 else 1000) < 1000 := hj
      by_cases e : j = i
      · subst e
        rw [if_pos rfl]
        exact ⟨0, Wk.nil⟩
      · rw [if_neg e] at hj'
        omega
  | k + 1 => by
    show wkQ M i (if (rbr M F i k).2 = 0 then rbr M F i k else lsA M F ((rbr M F i k).1, 0) F).1
    split
    · exact rbr_q k
    · exact lsA_q (s := ((rbr M F i k).1, 0)) (rbr_q k) F
theorem rbr_c {M : Cm} {F i : Nat} (hF : ∀ u v, 0 < M 1 u v → u < F ∧ v < F) : ∀ k, ((rbr M F i k).2 = 0 → ∀ u v, 0 < M 1 u v → (rbr M F i k).1 v ≤ (rbr M F i k).1 u + M 1 u v) ∧ (rbr M F i k).1 i = 0
  | 0 => ⟨fun h => absurd h (by show ¬ (1 : Nat) = 0; omega), if_pos rfl⟩
  | k + 1 => by
    have ih := rbr_c (i := i) hF k
    show ((if (rbr M F i k).2 = 0 then rbr M F i k else lsA M F ((rbr M F i k).1, 0) F).2 = 0 → _) ∧ _
    have e : rbr M F i (k + 1) = if (rbr M F i k).2 = 0 then rbr M F i k else lsA M F ((rbr M F i k).1, 0) F := rfl
    rw [e]
    by_cases q : (rbr M F i k).2 = 0
    · rw [if_pos q]
      exact ih
    · rw [if_neg q]
      refine ⟨fun h u v hp => ?_, ?_⟩
      · have h1 := lsA_f F h
        have h2 := lsA_r (s := ((rbr M F i k).1, 0)) F u v (hF u v hp).1 (hF u v hp).2 hp
        rw [h1] at h2 ⊢
        exact h2
      · have h1 := lsA_le (M := M) (F := F) (s := ((rbr M F i k).1, 0)) F i
        have h2 := ih.2
        dsimp only at h1
        omega
theorem rbr_w {M : Cm} {F i : Nat} (hF : ∀ u v, 0 < M 1 u v → u < F ∧ v < F) : ∀ k j n x, n ≤ k → Wk (M 1) i j n x → (rbr M F i k).1 j ≤ x
  | 0, j, n, x, hn, h => by
    obtain rfl : n = 0 := by omega
    obtain ⟨rfl, rfl⟩ := h
    exact Nat.le_of_eq (if_pos rfl)
  | k + 1, j, n, x, hn, h => by
    have e : rbr M F i (k + 1) = if (rbr M F i k).2 = 0 then rbr M F i k else lsA M F ((rbr M F i k).1, 0) F := rfl
    rw [e]
    have hc := rbr_c (i := i) hF k
    by_cases q : (rbr M F i k).2 = 0
    · rw [if_pos q]
      have hall : ∀ j n x, Wk (M 1) i j n x → (rbr M F i k).1 j ≤ x := fun j n x h => Wk.ind (P := fun j _ x => (rbr M F i k).1 j ≤ x) (Nat.le_of_eq hc.2) (fun j k n x _ h2 ih => by
          have := hc.1 q _ _ h2
          omega) n j x h
      exact hall j n x h
    · rw [if_neg q]
      cases n with
      | zero =>
        obtain ⟨rfl, rfl⟩ := h
        have h1 := lsA_le (M := M) (F := F) (s := ((rbr M F j k).1, 0)) F j
        have h2 := hc.2
        dsimp only at h1
        omega
      | succ m =>
        obtain ⟨u, y, h1, h2, rfl⟩ := h
        have a1 := rbr_w hF k u m y (by omega) h1
        have a2 := lsA_r (s := ((rbr M F i k).1, 0)) F u j (hF u j h2).1 (hF u j h2).2 h2
        dsimp only at a2
        omega
theorem again_far {M : Cm} {i : Nat} (h8 : M 11 0 2 ≤ 8) (hs : ∀ a b, M 1 a b = M 1 b a) (hz : ∀ u, M 1 u u = 0) (hF : ∀ u v, 0 < M 1 u v → v < M 11 0 2) (j : Nat) : farN M i j = againN M i j := by
  have hD := far_isD (i := i) hs hz hF
  have hQ : wkQ M i (againN M i) := rbr_q 8
  have a1 := hD.1 j
  have a2 := hQ.1 j
  have h1 : farN M i j < 1000 → againN M i j ≤ farN M i j := fun h => by
    obtain ⟨n, hn, hw⟩ := far_walk hz hF h
    exact rbr_w (fun u v hp => ⟨hF v u (by rw [hs]; exact hp), hF u v hp⟩) 8 j n _ (by omega) hw
  have h2 : againN M i j < 1000 → farN M i j ≤ againN M i j := fun h => by
    obtain ⟨n, hw⟩ := hQ.2 j h
    exact hD.2.1 j n _ hw
  by_cases p : farN M i j < 1000
  · have := h1 p
    have := h2 (by omega)
    omega
  · by_cases q : againN M i j < 1000
    · have := h2 q
      omega
    · omega
