/-! the instructions, one by one -/
section EI
variable {s0 : State} {D : va_G} {ids : Nat → ClassId} {l : Launch} {own : String} {cc : ByteArray} {nL : Nat} {ret : Option FieldType} {nm : String} {rm : Room} {K : Kr} {E : Ej} {pc : Nat} {k kt kf : Xf}
theorem sd_iconst (X : EnX s0 D ids l own cc nL ret nm rm K E) {n : Int} {v : Int32} (hd : decode cc pc = .ok (.iconst n, 1)) (hv : Int32.ofInt n = v) (hk : Sd E K (pc + 1) k) : Sd E K pc (xpush (.int v) k) := by
  obtain ⟨p, e, s, m, args, below, meth, c, ⟨hx, hb, hml, hown, hts⟩, hr, hlk, hnm, hS, hK, rfl⟩ := X
  intro ls st z f h H locs A hA hn hW hL h1 h2
  exact lv_iconst hx hb hd hv (hk ls _ z f h H locs A hA hn hW hL h1 h2)
theorem sd_bipush (X : EnX s0 D ids l own cc nL ret nm rm K E) {n : Int} {v : Int32} (hd : decode cc pc = .ok (.bipush n, 2)) (hv : (Int8.ofInt n).toInt32 = v) (hk : Sd E K (pc + 2) k) : Sd E K pc (xpush (.int v) k) := by
  obtain ⟨p, e, s, m, args, below, meth, c, ⟨hx, hb, hml, hown, hts⟩, hr, hlk, hnm, hS, hK, rfl⟩ := X
  intro ls st z f h H locs A hA hn hW hL h1 h2
  exact lv_bipush hx hb hd hv (hk ls _ z f h H locs A hA hn hW hL h1 h2)
theorem sd_sipush (X : EnX s0 D ids l own cc nL ret nm rm K E) {n : Int} {v : Int32} (hd : decode cc pc = .ok (.sipush n, 3)) (hv : (Int16.ofInt n).toInt32 = v) (hk : Sd E K (pc + 3) k) : Sd E K pc (xpush (.int v) k) := by
  obtain ⟨p, e, s, m, args, below, meth, c, ⟨hx, hb, hml, hown, hts⟩, hr, hlk, hnm, hS, hK, rfl⟩ := X
  intro ls st z f h H locs A hA hn hW hL h1 h2
  exact lv_sipush hx hb hd hv (hk ls _ z f h H locs A hA hn hW hL h1 h2)
theorem sd_fconst0 (X : EnX s0 D ids l own cc nL ret nm rm K E)  (hd : decode cc pc = .ok (.fconst 0, 1))  (hk : Sd E K (pc + 1) k) : Sd E K pc (xpush (.float 0) k) := by
  obtain ⟨p, e, s, m, args, below, meth, c, ⟨hx, hb, hml, hown, hts⟩, hr, hlk, hnm, hS, hK, rfl⟩ := X
  intro ls st z f h H locs A hA hn hW hL h1 h2
  exact lv_fconst0 hx hb hd (hk ls _ z f h H locs A hA hn hW hL h1 h2)
theorem sd_dconst0 (X : EnX s0 D ids l own cc nL ret nm rm K E)  (hd : decode cc pc = .ok (.dconst 0, 1))  (hk : Sd E K (pc + 1) k) : Sd E K pc (xpush (.double 0) k) := by
  obtain ⟨p, e, s, m, args, below, meth, c, ⟨hx, hb, hml, hown, hts⟩, hr, hlk, hnm, hS, hK, rfl⟩ := X
  intro ls st z f h H locs A hA hn hW hL h1 h2
  exact lv_dconst0 hx hb hd (hk ls _ z f h H locs A hA hn hW hL h1 h2)
theorem sd_ldc (X : EnX s0 D ids l own cc nL ret nm rm K E) {index : Nat} {v : Int32} (hd : decode cc pc = .ok (.ldc index, 2)) (hc : Cond.constant own index v ∈ bigW) (hk : Sd E K (pc + 2) k) : Sd E K pc (xpush (.int v) k) := by
  obtain ⟨p, e, s, m, args, below, meth, c, ⟨hx, hb, hml, hown, hts⟩, hr, hlk, hnm, hS, hK, rfl⟩ := X
  intro ls st z f h H locs A hA hn hW hL h1 h2
  exact lv_ldc hx hb hown (hts _ hc) hd (hk ls _ z f h H locs A hA hn hW hL h1 h2)
theorem sd_ldc2 (X : EnX s0 D ids l own cc nL ret nm rm K E) {index : Nat} {v : Int64} (hd : decode cc pc = .ok (.ldc2_w index, 3)) (hc : Cond.constantLong own index v ∈ bigW) (hk : Sd E K (pc + 3) k) : Sd E K pc (xpush (.long v) k) := by
  obtain ⟨p, e, s, m, args, below, meth, c, ⟨hx, hb, hml, hown, hts⟩, hr, hlk, hnm, hS, hK, rfl⟩ := X
  intro ls st z f h H locs A hA hn hW hL h1 h2
  exact lv_ldc2 hx hb hown (hts _ hc) hd (hk ls _ z f h H locs A hA hn hW hL h1 h2)
theorem sd_iload (X : EnX s0 D ids l own cc nL ret nm rm K E) {i : Nat} (hd : decode cc pc = .ok (.iload i, 2))  (hk : Sd E K (pc + 2) k) : Sd E K pc (xiload i k) := by
  obtain ⟨p, e, s, m, args, below, meth, c, ⟨hx, hb, hml, hown, hts⟩, hr, hlk, hnm, hS, hK, rfl⟩ := X
  intro ls st z f h H locs A hA hn hW hL h1 h2
  unfold xiload at h
  split at h
  · rename_i v hv
    exact lv_iload hx hb hd (hA.2.2 _ _ hv) (hk ls _ z f h H locs A hA hn hW hL h1 h2)
  · exact absurd h id
theorem sd_iload_n (X : EnX s0 D ids l own cc nL ret nm rm K E) {q : Fin 4} {i : Nat} (hd : decode cc pc = .ok (.iload_n q, 1)) (hi : (q : Nat) = i) (hk : Sd E K (pc + 1) k) : Sd E K pc (xiload i k) := by
  obtain ⟨p, e, s, m, args, below, meth, c, ⟨hx, hb, hml, hown, hts⟩, hr, hlk, hnm, hS, hK, rfl⟩ := X
  intro ls st z f h H locs A hA hn hW hL h1 h2
  unfold xiload at h
  split at h
  · rename_i v hv
    exact lv_iload_n hx hb hd hi (hA.2.2 _ _ hv) (hk ls _ z f h H locs A hA hn hW hL h1 h2)
  · exact absurd h id
theorem sd_aload (X : EnX s0 D ids l own cc nL ret nm rm K E) {i : Nat} (hd : decode cc pc = .ok (.aload i, 2))  (hk : Sd E K (pc + 2) k) : Sd E K pc (xaload i k) := by
  obtain ⟨p, e, s, m, args, below, meth, c, ⟨hx, hb, hml, hown, hts⟩, hr, hlk, hnm, hS, hK, rfl⟩ := X
  intro ls st z f h H locs A hA hn hW hL h1 h2
  unfold xaload at h
  split at h
  · rename_i v hv
    exact lv_aload hx hb hd (hA.2.2 _ _ hv) (hk ls _ z f h H locs A hA hn hW hL h1 h2)
  · exact absurd h id
theorem sd_aload_n (X : EnX s0 D ids l own cc nL ret nm rm K E) {q : Fin 4} {i : Nat} (hd : decode cc pc = .ok (.aload_n q, 1)) (hi : (q : Nat) = i) (hk : Sd E K (pc + 1) k) : Sd E K pc (xaload i k) := by
  obtain ⟨p, e, s, m, args, below, meth, c, ⟨hx, hb, hml, hown, hts⟩, hr, hlk, hnm, hS, hK, rfl⟩ := X
  intro ls st z f h H locs A hA hn hW hL h1 h2
  unfold xaload at h
  split at h
  · rename_i v hv
    exact lv_aload_n hx hb hd hi (hA.2.2 _ _ hv) (hk ls _ z f h H locs A hA hn hW hL h1 h2)
  · exact absurd h id
theorem sd_lload (X : EnX s0 D ids l own cc nL ret nm rm K E) {i : Nat} (hd : decode cc pc = .ok (.lload i, 2))  (hk : Sd E K (pc + 2) k) : Sd E K pc (xlload i k) := by
  obtain ⟨p, e, s, m, args, below, meth, c, ⟨hx, hb, hml, hown, hts⟩, hr, hlk, hnm, hS, hK, rfl⟩ := X
  intro ls st z f h H locs A hA hn hW hL h1 h2
  unfold xlload at h
  split at h
  · rename_i v hv
    exact lv_lload hx hb hd (hA.2.2 _ _ hv) (hk ls _ z f h H locs A hA hn hW hL h1 h2)
  · exact absurd h id
theorem sd_lload_n (X : EnX s0 D ids l own cc nL ret nm rm K E) {q : Fin 4} {i : Nat} (hd : decode cc pc = .ok (.lload_n q, 1)) (hi : (q : Nat) = i) (hk : Sd E K (pc + 1) k) : Sd E K pc (xlload i k) := by
  obtain ⟨p, e, s, m, args, below, meth, c, ⟨hx, hb, hml, hown, hts⟩, hr, hlk, hnm, hS, hK, rfl⟩ := X
  intro ls st z f h H locs A hA hn hW hL h1 h2
  unfold xlload at h
  split at h
  · rename_i v hv
    exact lv_lload_n hx hb hd hi (hA.2.2 _ _ hv) (hk ls _ z f h H locs A hA hn hW hL h1 h2)
  · exact absurd h id
theorem sd_fload (X : EnX s0 D ids l own cc nL ret nm rm K E) {i : Nat} (hd : decode cc pc = .ok (.fload i, 2))  (hk : Sd E K (pc + 2) k) : Sd E K pc (xfload i k) := by
  obtain ⟨p, e, s, m, args, below, meth, c, ⟨hx, hb, hml, hown, hts⟩, hr, hlk, hnm, hS, hK, rfl⟩ := X
  intro ls st z f h H locs A hA hn hW hL h1 h2
  unfold xfload at h
  split at h
  · rename_i v hv
    exact lv_fload hx hb hd (hA.2.2 _ _ hv) (hk ls _ z f h H locs A hA hn hW hL h1 h2)
  · exact absurd h id
theorem sd_dload (X : EnX s0 D ids l own cc nL ret nm rm K E) {i : Nat} (hd : decode cc pc = .ok (.dload i, 2))  (hk : Sd E K (pc + 2) k) : Sd E K pc (xdload i k) := by
  obtain ⟨p, e, s, m, args, below, meth, c, ⟨hx, hb, hml, hown, hts⟩, hr, hlk, hnm, hS, hK, rfl⟩ := X
  intro ls st z f h H locs A hA hn hW hL h1 h2
  unfold xdload at h
  split at h
  · rename_i v hv
    exact lv_dload hx hb hd (hA.2.2 _ _ hv) (hk ls _ z f h H locs A hA hn hW hL h1 h2)
  · exact absurd h id
theorem sd_istore (X : EnX s0 D ids l own cc nL ret nm rm K E) {i : Nat} (hd : decode cc pc = .ok (.istore i, 2))  (hk : Sd E K (pc + 2) k) : Sd E K pc (xistore i k) := by
  obtain ⟨p, e, s, m, args, below, meth, c, ⟨hx, hb, hml, hown, hts⟩, hr, hlk, hnm, hS, hK, rfl⟩ := X
  intro ls st z f h H locs A hA hn hW hL h1 h2
  unfold xistore at h
  split at h
  · rename_i v r
    obtain ⟨hlt, h⟩ := h
    exact lv_istore hx hb hd (enL_has hA) hlt rfl (fun A' hA' => hk _ _ z f h H locs A' (enL_set1 hA hA') (by simp [lkill_len, hn]) hW hL h1 h2)
  · exact absurd h id
theorem sd_istore_n (X : EnX s0 D ids l own cc nL ret nm rm K E) {q : Fin 4} {i : Nat} (hd : decode cc pc = .ok (.istore_n q, 1)) (hi : (q : Nat) = i) (hk : Sd E K (pc + 1) k) : Sd E K pc (xistore i k) := by
  obtain ⟨p, e, s, m, args, below, meth, c, ⟨hx, hb, hml, hown, hts⟩, hr, hlk, hnm, hS, hK, rfl⟩ := X
  intro ls st z f h H locs A hA hn hW hL h1 h2
  unfold xistore at h
  split at h
  · rename_i v r
    obtain ⟨hlt, h⟩ := h
    exact lv_istore_n hx hb hd hi (enL_has hA) hlt rfl (fun A' hA' => hk _ _ z f h H locs A' (enL_set1 hA hA') (by simp [lkill_len, hn]) hW hL h1 h2)
  · exact absurd h id
theorem sd_astore (X : EnX s0 D ids l own cc nL ret nm rm K E) {i : Nat} (hd : decode cc pc = .ok (.astore i, 2))  (hk : Sd E K (pc + 2) k) : Sd E K pc (xastore i k) := by
  obtain ⟨p, e, s, m, args, below, meth, c, ⟨hx, hb, hml, hown, hts⟩, hr, hlk, hnm, hS, hK, rfl⟩ := X
  intro ls st z f h H locs A hA hn hW hL h1 h2
  unfold xastore at h
  split at h
  · rename_i v r
    obtain ⟨hlt, h⟩ := h
    exact lv_astore hx hb hd (enL_has hA) hlt rfl (fun A' hA' => hk _ _ z f h H locs A' (enL_set1 hA hA') (by simp [lkill_len, hn]) hW hL h1 h2)
  · exact absurd h id
theorem sd_astore_n (X : EnX s0 D ids l own cc nL ret nm rm K E) {q : Fin 4} {i : Nat} (hd : decode cc pc = .ok (.astore_n q, 1)) (hi : (q : Nat) = i) (hk : Sd E K (pc + 1) k) : Sd E K pc (xastore i k) := by
  obtain ⟨p, e, s, m, args, below, meth, c, ⟨hx, hb, hml, hown, hts⟩, hr, hlk, hnm, hS, hK, rfl⟩ := X
  intro ls st z f h H locs A hA hn hW hL h1 h2
  unfold xastore at h
  split at h
  · rename_i v r
    obtain ⟨hlt, h⟩ := h
    exact lv_astore_n hx hb hd hi (enL_has hA) hlt rfl (fun A' hA' => hk _ _ z f h H locs A' (enL_set1 hA hA') (by simp [lkill_len, hn]) hW hL h1 h2)
  · exact absurd h id
theorem sd_fstore (X : EnX s0 D ids l own cc nL ret nm rm K E) {i : Nat} (hd : decode cc pc = .ok (.fstore i, 2))  (hk : Sd E K (pc + 2) k) : Sd E K pc (xfstore i k) := by
  obtain ⟨p, e, s, m, args, below, meth, c, ⟨hx, hb, hml, hown, hts⟩, hr, hlk, hnm, hS, hK, rfl⟩ := X
  intro ls st z f h H locs A hA hn hW hL h1 h2
  unfold xfstore at h
  split at h
  · rename_i v r
    obtain ⟨hlt, h⟩ := h
    exact lv_fstore hx hb hd (enL_has hA) hlt rfl (fun A' hA' => hk _ _ z f h H locs A' (enL_set1 hA hA') (by simp [lkill_len, hn]) hW hL h1 h2)
  · exact absurd h id
theorem sd_lstore (X : EnX s0 D ids l own cc nL ret nm rm K E) {i : Nat} (hd : decode cc pc = .ok (.lstore i, 2))  (hk : Sd E K (pc + 2) k) : Sd E K pc (xlstore i k) := by
  obtain ⟨p, e, s, m, args, below, meth, c, ⟨hx, hb, hml, hown, hts⟩, hr, hlk, hnm, hS, hK, rfl⟩ := X
  intro ls st z f h H locs A hA hn hW hL h1 h2
  unfold xlstore at h
  split at h
  · rename_i v r
    obtain ⟨hlt, h⟩ := h
    exact lv_lstore hx hb hd (enL_has hA) hlt rfl (fun A' hA' => hk _ _ z f h H locs A' (enL_set2 hA hA') (by simp [lkill_len, hn]) hW hL h1 h2)
  · exact absurd h id
theorem sd_lstore_n (X : EnX s0 D ids l own cc nL ret nm rm K E) {q : Fin 4} {i : Nat} (hd : decode cc pc = .ok (.lstore_n q, 1)) (hi : (q : Nat) = i) (hk : Sd E K (pc + 1) k) : Sd E K pc (xlstore i k) := by
  obtain ⟨p, e, s, m, args, below, meth, c, ⟨hx, hb, hml, hown, hts⟩, hr, hlk, hnm, hS, hK, rfl⟩ := X
  intro ls st z f h H locs A hA hn hW hL h1 h2
  unfold xlstore at h
  split at h
  · rename_i v r
    obtain ⟨hlt, h⟩ := h
    exact lv_lstore_n hx hb hd hi (enL_has hA) hlt rfl (fun A' hA' => hk _ _ z f h H locs A' (enL_set2 hA hA') (by simp [lkill_len, hn]) hW hL h1 h2)
  · exact absurd h id
theorem sd_dstore (X : EnX s0 D ids l own cc nL ret nm rm K E) {i : Nat} (hd : decode cc pc = .ok (.dstore i, 2))  (hk : Sd E K (pc + 2) k) : Sd E K pc (xdstore i k) := by
  obtain ⟨p, e, s, m, args, below, meth, c, ⟨hx, hb, hml, hown, hts⟩, hr, hlk, hnm, hS, hK, rfl⟩ := X
  intro ls st z f h H locs A hA hn hW hL h1 h2
  unfold xdstore at h
  split at h
  · rename_i v r
    obtain ⟨hlt, h⟩ := h
    exact lv_dstore hx hb hd (enL_has hA) hlt rfl (fun A' hA' => hk _ _ z f h H locs A' (enL_set2 hA hA') (by simp [lkill_len, hn]) hW hL h1 h2)
  · exact absurd h id
theorem sd_iinc (X : EnX s0 D ids l own cc nL ret nm rm K E) {i : Nat} {n : Int} {d : Int32} (hd : decode cc pc = .ok (.iinc i n, 3)) (hv : Int32.ofInt n = d) (hk : Sd E K (pc + 3) k) : Sd E K pc (xiinc i d k) := by
  obtain ⟨p, e, s, m, args, below, meth, c, ⟨hx, hb, hml, hown, hts⟩, hr, hlk, hnm, hS, hK, rfl⟩ := X
  intro ls st z f h H locs A hA hn hW hL h1 h2
  unfold xiinc at h
  split at h
  · rename_i v hv2
    obtain ⟨j, hj⟩ := List.getElem?_of_mem (enPairs_in.mpr hv2)
    exact lv_iinc hx hb hd (enL_has hA) hj (by rw [hv]) (enL_len hA hv2) rfl (fun A' hA' => hk _ _ z f h H locs A' (enL_set1 hA hA') (by simp [lkill_len, hn]) hW hL h1 h2)
  · exact absurd h id
theorem sd_iadd (X : EnX s0 D ids l own cc nL ret nm rm K E)  (hd : decode cc pc = .ok (.iadd, 1))  (hk : Sd E K (pc + 1) k) : Sd E K pc (xbin (fun x y => x + y) k) := by
  obtain ⟨p, e, s, m, args, below, meth, c, ⟨hx, hb, hml, hown, hts⟩, hr, hlk, hnm, hS, hK, rfl⟩ := X
  intro ls st z f h H locs A hA hn hW hL h1 h2
  unfold xbin at h
  split at h
  · exact lv_iadd hx hb hd (hk ls _ z f h H locs A hA hn hW hL h1 h2)
  · exact absurd h id
theorem sd_isub (X : EnX s0 D ids l own cc nL ret nm rm K E)  (hd : decode cc pc = .ok (.isub, 1))  (hk : Sd E K (pc + 1) k) : Sd E K pc (xbin (fun x y => x - y) k) := by
  obtain ⟨p, e, s, m, args, below, meth, c, ⟨hx, hb, hml, hown, hts⟩, hr, hlk, hnm, hS, hK, rfl⟩ := X
  intro ls st z f h H locs A hA hn hW hL h1 h2
  unfold xbin at h
  split at h
  · exact lv_isub hx hb hd (hk ls _ z f h H locs A hA hn hW hL h1 h2)
  · exact absurd h id
theorem sd_imul (X : EnX s0 D ids l own cc nL ret nm rm K E)  (hd : decode cc pc = .ok (.imul, 1))  (hk : Sd E K (pc + 1) k) : Sd E K pc (xbin (fun x y => x * y) k) := by
  obtain ⟨p, e, s, m, args, below, meth, c, ⟨hx, hb, hml, hown, hts⟩, hr, hlk, hnm, hS, hK, rfl⟩ := X
  intro ls st z f h H locs A hA hn hW hL h1 h2
  unfold xbin at h
  split at h
  · exact lv_imul hx hb hd (hk ls _ z f h H locs A hA hn hW hL h1 h2)
  · exact absurd h id
theorem sd_iand (X : EnX s0 D ids l own cc nL ret nm rm K E)  (hd : decode cc pc = .ok (.iand, 1))  (hk : Sd E K (pc + 1) k) : Sd E K pc (xbin (fun x y => x &&& y) k) := by
  obtain ⟨p, e, s, m, args, below, meth, c, ⟨hx, hb, hml, hown, hts⟩, hr, hlk, hnm, hS, hK, rfl⟩ := X
  intro ls st z f h H locs A hA hn hW hL h1 h2
  unfold xbin at h
  split at h
  · exact lv_iand hx hb hd (hk ls _ z f h H locs A hA hn hW hL h1 h2)
  · exact absurd h id
theorem sd_ior (X : EnX s0 D ids l own cc nL ret nm rm K E)  (hd : decode cc pc = .ok (.ior, 1))  (hk : Sd E K (pc + 1) k) : Sd E K pc (xbin (fun x y => x ||| y) k) := by
  obtain ⟨p, e, s, m, args, below, meth, c, ⟨hx, hb, hml, hown, hts⟩, hr, hlk, hnm, hS, hK, rfl⟩ := X
  intro ls st z f h H locs A hA hn hW hL h1 h2
  unfold xbin at h
  split at h
  · exact lv_ior hx hb hd (hk ls _ z f h H locs A hA hn hW hL h1 h2)
  · exact absurd h id
theorem sd_ishl (X : EnX s0 D ids l own cc nL ret nm rm K E)  (hd : decode cc pc = .ok (.ishl, 1))  (hk : Sd E K (pc + 1) k) : Sd E K pc (xbin (fun x y => x <<< (y &&& 31)) k) := by
  obtain ⟨p, e, s, m, args, below, meth, c, ⟨hx, hb, hml, hown, hts⟩, hr, hlk, hnm, hS, hK, rfl⟩ := X
  intro ls st z f h H locs A hA hn hW hL h1 h2
  unfold xbin at h
  split at h
  · exact lv_ishl hx hb hd (hk ls _ z f h H locs A hA hn hW hL h1 h2)
  · exact absurd h id
theorem sd_ishr (X : EnX s0 D ids l own cc nL ret nm rm K E)  (hd : decode cc pc = .ok (.ishr, 1))  (hk : Sd E K (pc + 1) k) : Sd E K pc (xbin (fun x y => x >>> (y &&& 31)) k) := by
  obtain ⟨p, e, s, m, args, below, meth, c, ⟨hx, hb, hml, hown, hts⟩, hr, hlk, hnm, hS, hK, rfl⟩ := X
  intro ls st z f h H locs A hA hn hW hL h1 h2
  unfold xbin at h
  split at h
  · exact lv_ishr hx hb hd (hk ls _ z f h H locs A hA hn hW hL h1 h2)
  · exact absurd h id
theorem sd_idiv (X : EnX s0 D ids l own cc nL ret nm rm K E)  (hd : decode cc pc = .ok (.idiv, 1))  (hk : Sd E K (pc + 1) k) : Sd E K pc (xdiv (fun x y => x / y) k) := by
  obtain ⟨p, e, s, m, args, below, meth, c, ⟨hx, hb, hml, hown, hts⟩, hr, hlk, hnm, hS, hK, rfl⟩ := X
  intro ls st z f h H locs A hA hn hW hL h1 h2
  unfold xdiv at h
  split at h
  · obtain ⟨hy, h⟩ := h
    exact lv_idiv hx hb hd hy (hk ls _ z f h H locs A hA hn hW hL h1 h2)
  · exact absurd h id
theorem sd_irem (X : EnX s0 D ids l own cc nL ret nm rm K E)  (hd : decode cc pc = .ok (.irem, 1))  (hk : Sd E K (pc + 1) k) : Sd E K pc (xdiv (fun x y => x - x / y * y) k) := by
  obtain ⟨p, e, s, m, args, below, meth, c, ⟨hx, hb, hml, hown, hts⟩, hr, hlk, hnm, hS, hK, rfl⟩ := X
  intro ls st z f h H locs A hA hn hW hL h1 h2
  unfold xdiv at h
  split at h
  · obtain ⟨hy, h⟩ := h
    exact lv_irem hx hb hd hy (hk ls _ z f h H locs A hA hn hW hL h1 h2)
  · exact absurd h id
theorem sd_ineg (X : EnX s0 D ids l own cc nL ret nm rm K E)  (hd : decode cc pc = .ok (.ineg, 1))  (hk : Sd E K (pc + 1) k) : Sd E K pc (xun (fun x => -x) k) := by
  obtain ⟨p, e, s, m, args, below, meth, c, ⟨hx, hb, hml, hown, hts⟩, hr, hlk, hnm, hS, hK, rfl⟩ := X
  intro ls st z f h H locs A hA hn hW hL h1 h2
  unfold xun at h
  split at h
  · exact lv_ineg hx hb hd (hk ls _ z f h H locs A hA hn hW hL h1 h2)
  · exact absurd h id
theorem sd_i2b (X : EnX s0 D ids l own cc nL ret nm rm K E)  (hd : decode cc pc = .ok (.i2b, 1))  (hk : Sd E K (pc + 1) k) : Sd E K pc (xun (fun x => x.toInt8.toInt32) k) := by
  obtain ⟨p, e, s, m, args, below, meth, c, ⟨hx, hb, hml, hown, hts⟩, hr, hlk, hnm, hS, hK, rfl⟩ := X
  intro ls st z f h H locs A hA hn hW hL h1 h2
  unfold xun at h
  split at h
  · exact lv_i2b hx hb hd rfl (hk ls _ z f h H locs A hA hn hW hL h1 h2)
  · exact absurd h id
theorem sd_i2c (X : EnX s0 D ids l own cc nL ret nm rm K E)  (hd : decode cc pc = .ok (.i2c, 1))  (hk : Sd E K (pc + 1) k) : Sd E K pc (xun (fun x => (x.toUInt32 % 65536).toInt32) k) := by
  obtain ⟨p, e, s, m, args, below, meth, c, ⟨hx, hb, hml, hown, hts⟩, hr, hlk, hnm, hS, hK, rfl⟩ := X
  intro ls st z f h H locs A hA hn hW hL h1 h2
  unfold xun at h
  split at h
  · exact lv_i2c hx hb hd rfl (hk ls _ z f h H locs A hA hn hW hL h1 h2)
  · exact absurd h id
theorem sd_ladd (X : EnX s0 D ids l own cc nL ret nm rm K E)  (hd : decode cc pc = .ok (.ladd, 1))  (hk : Sd E K (pc + 1) k) : Sd E K pc (xlbin (fun x y => x + y) k) := by
  obtain ⟨p, e, s, m, args, below, meth, c, ⟨hx, hb, hml, hown, hts⟩, hr, hlk, hnm, hS, hK, rfl⟩ := X
  intro ls st z f h H locs A hA hn hW hL h1 h2
  unfold xlbin at h
  split at h
  · exact lv_ladd hx hb hd (hk ls _ z f h H locs A hA hn hW hL h1 h2)
  · exact absurd h id
theorem sd_lmul (X : EnX s0 D ids l own cc nL ret nm rm K E)  (hd : decode cc pc = .ok (.lmul, 1))  (hk : Sd E K (pc + 1) k) : Sd E K pc (xlbin (fun x y => x * y) k) := by
  obtain ⟨p, e, s, m, args, below, meth, c, ⟨hx, hb, hml, hown, hts⟩, hr, hlk, hnm, hS, hK, rfl⟩ := X
  intro ls st z f h H locs A hA hn hW hL h1 h2
  unfold xlbin at h
  split at h
  · exact lv_lmul hx hb hd (hk ls _ z f h H locs A hA hn hW hL h1 h2)
  · exact absurd h id
theorem sd_i2l (X : EnX s0 D ids l own cc nL ret nm rm K E)  (hd : decode cc pc = .ok (.i2l, 1))  (hk : Sd E K (pc + 1) k) : Sd E K pc (xi2l k) := by
  obtain ⟨p, e, s, m, args, below, meth, c, ⟨hx, hb, hml, hown, hts⟩, hr, hlk, hnm, hS, hK, rfl⟩ := X
  intro ls st z f h H locs A hA hn hW hL h1 h2
  unfold xi2l at h
  split at h
  · exact lv_i2l hx hb hd rfl (hk ls _ z f h H locs A hA hn hW hL h1 h2)
  · exact absurd h id
theorem sd_i2f (X : EnX s0 D ids l own cc nL ret nm rm K E)  (hd : decode cc pc = .ok (.i2f, 1))  (hk : Sd E K (pc + 1) k) : Sd E K pc (xi2f k) := by
  obtain ⟨p, e, s, m, args, below, meth, c, ⟨hx, hb, hml, hown, hts⟩, hr, hlk, hnm, hS, hK, rfl⟩ := X
  intro ls st z f h H locs A hA hn hW hL h1 h2
  unfold xi2f at h
  split at h
  · exact lv_i2f hx hb hd (hk ls _ z f h H locs A hA hn hW hL h1 h2)
  · exact absurd h id
theorem sd_i2d (X : EnX s0 D ids l own cc nL ret nm rm K E)  (hd : decode cc pc = .ok (.i2d, 1))  (hk : Sd E K (pc + 1) k) : Sd E K pc (xi2d k) := by
  obtain ⟨p, e, s, m, args, below, meth, c, ⟨hx, hb, hml, hown, hts⟩, hr, hlk, hnm, hS, hK, rfl⟩ := X
  intro ls st z f h H locs A hA hn hW hL h1 h2
  unfold xi2d at h
  split at h
  · exact lv_i2d hx hb hd (hk ls _ z f h H locs A hA hn hW hL h1 h2)
  · exact absurd h id
theorem sd_lcmp (X : EnX s0 D ids l own cc nL ret nm rm K E)  (hd : decode cc pc = .ok (.lcmp, 1))  (hk : Sd E K (pc + 1) k) : Sd E K pc (xlcmp k) := by
  obtain ⟨p, e, s, m, args, below, meth, c, ⟨hx, hb, hml, hown, hts⟩, hr, hlk, hnm, hS, hK, rfl⟩ := X
  intro ls st z f h H locs A hA hn hW hL h1 h2
  unfold xlcmp at h
  split at h
  · exact W.lcmp hx hb hd (hk ls _ z f h H locs A hA hn hW hL h1 h2)
  · exact absurd h id
theorem sd_fcmp (X : EnX s0 D ids l own cc nL ret nm rm K E) {op : CmpOp} (hd : decode cc pc = .ok (.fcmp op, 1))  (hk : Sd E K (pc + 1) k) : Sd E K pc (xfcmp op k) := by
  obtain ⟨p, e, s, m, args, below, meth, c, ⟨hx, hb, hml, hown, hts⟩, hr, hlk, hnm, hS, hK, rfl⟩ := X
  intro ls st z f h H locs A hA hn hW hL h1 h2
  unfold xfcmp at h
  split at h
  · exact lv_fcmp hx hb hd (hk ls _ z f h H locs A hA hn hW hL h1 h2)
  · exact absurd h id
theorem sd_dcmp (X : EnX s0 D ids l own cc nL ret nm rm K E) {op : CmpOp} (hd : decode cc pc = .ok (.dcmp op, 1))  (hk : Sd E K (pc + 1) k) : Sd E K pc (xdcmp op k) := by
  obtain ⟨p, e, s, m, args, below, meth, c, ⟨hx, hb, hml, hown, hts⟩, hr, hlk, hnm, hS, hK, rfl⟩ := X
  intro ls st z f h H locs A hA hn hW hL h1 h2
  unfold xdcmp at h
  split at h
  · exact lv_dcmp hx hb hd (hk ls _ z f h H locs A hA hn hW hL h1 h2)
  · exact absurd h id
theorem sd_fdiv (X : EnX s0 D ids l own cc nL ret nm rm K E)  (hd : decode cc pc = .ok (.fdiv, 1))  (hk : Sd E K (pc + 1) k) : Sd E K pc (xfdiv k) := by
  obtain ⟨p, e, s, m, args, below, meth, c, ⟨hx, hb, hml, hown, hts⟩, hr, hlk, hnm, hS, hK, rfl⟩ := X
  intro ls st z f h H locs A hA hn hW hL h1 h2
  unfold xfdiv at h
  split at h
  · obtain ⟨hy, h⟩ := h
    exact lv_fdiv hx hb hd hy (hk ls _ z f h H locs A hA hn hW hL h1 h2)
  · exact absurd h id
theorem sd_ddiv (X : EnX s0 D ids l own cc nL ret nm rm K E)  (hd : decode cc pc = .ok (.ddiv, 1))  (hk : Sd E K (pc + 1) k) : Sd E K pc (xddiv k) := by
  obtain ⟨p, e, s, m, args, below, meth, c, ⟨hx, hb, hml, hown, hts⟩, hr, hlk, hnm, hS, hK, rfl⟩ := X
  intro ls st z f h H locs A hA hn hW hL h1 h2
  unfold xddiv at h
  split at h
  · obtain ⟨hy, h⟩ := h
    exact lv_ddiv hx hb hd hy (hk ls _ z f h H locs A hA hn hW hL h1 h2)
  · exact absurd h id
theorem sd_dup (X : EnX s0 D ids l own cc nL ret nm rm K E)  (hd : decode cc pc = .ok (.dup, 1))  (hk : Sd E K (pc + 1) k) : Sd E K pc (xdup k) := by
  obtain ⟨p, e, s, m, args, below, meth, c, ⟨hx, hb, hml, hown, hts⟩, hr, hlk, hnm, hS, hK, rfl⟩ := X
  intro ls st z f h H locs A hA hn hW hL h1 h2
  unfold xdup at h
  split at h
  · obtain ⟨hy, h⟩ := h
    exact lv_dup hx hb hd (c1_cat hy) (hk ls _ z f h H locs A hA hn hW hL h1 h2)
  · exact absurd h id
theorem sd_pop (X : EnX s0 D ids l own cc nL ret nm rm K E)  (hd : decode cc pc = .ok (.pop, 1))  (hk : Sd E K (pc + 1) k) : Sd E K pc (xpop k) := by
  obtain ⟨p, e, s, m, args, below, meth, c, ⟨hx, hb, hml, hown, hts⟩, hr, hlk, hnm, hS, hK, rfl⟩ := X
  intro ls st z f h H locs A hA hn hW hL h1 h2
  unfold xpop at h
  split at h
  · obtain ⟨hy, h⟩ := h
    exact lv_pop hx hb hd (c1_cat hy) (hk ls _ z f h H locs A hA hn hW hL h1 h2)
  · exact absurd h id
theorem sd_dup_x1 (X : EnX s0 D ids l own cc nL ret nm rm K E)  (hd : decode cc pc = .ok (.dup_x1, 1))  (hk : Sd E K (pc + 1) k) : Sd E K pc (xdup_x1 k) := by
  obtain ⟨p, e, s, m, args, below, meth, c, ⟨hx, hb, hml, hown, hts⟩, hr, hlk, hnm, hS, hK, rfl⟩ := X
  intro ls st z f h H locs A hA hn hW hL h1 h2
  unfold xdup_x1 at h
  split at h
  · obtain ⟨hy, hy2, h⟩ := h
    exact lv_dup_x1 hx hb hd (c1_cat hy) (c1_cat hy2) (hk ls _ z f h H locs A hA hn hW hL h1 h2)
  · exact absurd h id
theorem sd_dup2 (X : EnX s0 D ids l own cc nL ret nm rm K E)  (hd : decode cc pc = .ok (.dup2, 1))  (hk : Sd E K (pc + 1) k) : Sd E K pc (xdup2 k) := by
  obtain ⟨p, e, s, m, args, below, meth, c, ⟨hx, hb, hml, hown, hts⟩, hr, hlk, hnm, hS, hK, rfl⟩ := X
  intro ls st z f h H locs A hA hn hW hL h1 h2
  unfold xdup2 at h
  split at h
  · obtain ⟨hy, hy2, h⟩ := h
    exact lv_dup2_11 hx hb hd (c1_cat hy) (c1_cat hy2) (hk ls _ z f h H locs A hA hn hW hL h1 h2)
  · exact absurd h id
theorem sd_if_eq (X : EnX s0 D ids l own cc nL ret nm rm K E) {off : Int} {tgt : Nat} (hd : decode cc pc = .ok (.ifCond .eq off, 3)) (ht : (pc : Int) + off = (tgt : Int)) (hkt : Sd E K tgt kt) (hkf : Sd E K (pc + 3) kf) : Sd E K pc (xif (fun x => x = 0) kt kf) := by
  obtain ⟨p, e, s, m, args, below, meth, c, ⟨hx, hb, hml, hown, hts⟩, hr, hlk, hnm, hS, hK, rfl⟩ := X
  intro ls st z f h H locs A hA hn hW hL h1 h2
  unfold xif at h
  split at h
  · refine lv_if_eq hx hb hd ht (fun q => ?_) (fun q => ?_)
    · exact hkt ls _ z f (h.1 q) H locs A hA hn hW hL h1 h2
    · exact hkf ls _ z f (h.2 (by first | exact q | exact fun w => w q | exact fun w => absurd w (by first | exact q | exact Int32.not_lt.mpr q | exact Int32.not_le.mpr q))) H locs A hA hn hW hL h1 h2
  · exact absurd h id
theorem sd_if_ne (X : EnX s0 D ids l own cc nL ret nm rm K E) {off : Int} {tgt : Nat} (hd : decode cc pc = .ok (.ifCond .ne off, 3)) (ht : (pc : Int) + off = (tgt : Int)) (hkt : Sd E K tgt kt) (hkf : Sd E K (pc + 3) kf) : Sd E K pc (xif (fun x => ¬ x = 0) kt kf) := by
  obtain ⟨p, e, s, m, args, below, meth, c, ⟨hx, hb, hml, hown, hts⟩, hr, hlk, hnm, hS, hK, rfl⟩ := X
  intro ls st z f h H locs A hA hn hW hL h1 h2
  unfold xif at h
  split at h
  · refine lv_if_ne hx hb hd ht (fun q => ?_) (fun q => ?_)
    · exact hkt ls _ z f (h.1 q) H locs A hA hn hW hL h1 h2
    · exact hkf ls _ z f (h.2 (by first | exact q | exact fun w => w q | exact fun w => absurd w (by first | exact q | exact Int32.not_lt.mpr q | exact Int32.not_le.mpr q))) H locs A hA hn hW hL h1 h2
  · exact absurd h id
theorem sd_if_lt (X : EnX s0 D ids l own cc nL ret nm rm K E) {off : Int} {tgt : Nat} (hd : decode cc pc = .ok (.ifCond .lt off, 3)) (ht : (pc : Int) + off = (tgt : Int)) (hkt : Sd E K tgt kt) (hkf : Sd E K (pc + 3) kf) : Sd E K pc (xif (fun x => x < 0) kt kf) := by
  obtain ⟨p, e, s, m, args, below, meth, c, ⟨hx, hb, hml, hown, hts⟩, hr, hlk, hnm, hS, hK, rfl⟩ := X
  intro ls st z f h H locs A hA hn hW hL h1 h2
  unfold xif at h
  split at h
  · refine lv_if_lt hx hb hd ht (fun q => ?_) (fun q => ?_)
    · exact hkt ls _ z f (h.1 q) H locs A hA hn hW hL h1 h2
    · exact hkf ls _ z f (h.2 (by first | exact q | exact fun w => w q | exact fun w => absurd w (by first | exact q | exact Int32.not_lt.mpr q | exact Int32.not_le.mpr q))) H locs A hA hn hW hL h1 h2
  · exact absurd h id
theorem sd_if_ge (X : EnX s0 D ids l own cc nL ret nm rm K E) {off : Int} {tgt : Nat} (hd : decode cc pc = .ok (.ifCond .ge off, 3)) (ht : (pc : Int) + off = (tgt : Int)) (hkt : Sd E K tgt kt) (hkf : Sd E K (pc + 3) kf) : Sd E K pc (xif (fun x => 0 ≤ x) kt kf) := by
  obtain ⟨p, e, s, m, args, below, meth, c, ⟨hx, hb, hml, hown, hts⟩, hr, hlk, hnm, hS, hK, rfl⟩ := X
  intro ls st z f h H locs A hA hn hW hL h1 h2
  unfold xif at h
  split at h
  · refine lv_if_ge hx hb hd ht (fun q => ?_) (fun q => ?_)
    · exact hkt ls _ z f (h.1 q) H locs A hA hn hW hL h1 h2
    · exact hkf ls _ z f (h.2 (by first | exact q | exact fun w => w q | exact fun w => absurd w (by first | exact q | exact Int32.not_lt.mpr q | exact Int32.not_le.mpr q))) H locs A hA hn hW hL h1 h2
  · exact absurd h id
theorem sd_if_gt (X : EnX s0 D ids l own cc nL ret nm rm K E) {off : Int} {tgt : Nat} (hd : decode cc pc = .ok (.ifCond .gt off, 3)) (ht : (pc : Int) + off = (tgt : Int)) (hkt : Sd E K tgt kt) (hkf : Sd E K (pc + 3) kf) : Sd E K pc (xif (fun x => 0 < x) kt kf) := by
  obtain ⟨p, e, s, m, args, below, meth, c, ⟨hx, hb, hml, hown, hts⟩, hr, hlk, hnm, hS, hK, rfl⟩ := X
  intro ls st z f h H locs A hA hn hW hL h1 h2
  unfold xif at h
  split at h
  · refine lv_if_gt hx hb hd ht (fun q => ?_) (fun q => ?_)
    · exact hkt ls _ z f (h.1 q) H locs A hA hn hW hL h1 h2
    · exact hkf ls _ z f (h.2 (by first | exact q | exact fun w => w q | exact fun w => absurd w (by first | exact q | exact Int32.not_lt.mpr q | exact Int32.not_le.mpr q))) H locs A hA hn hW hL h1 h2
  · exact absurd h id
theorem sd_if_le (X : EnX s0 D ids l own cc nL ret nm rm K E) {off : Int} {tgt : Nat} (hd : decode cc pc = .ok (.ifCond .le off, 3)) (ht : (pc : Int) + off = (tgt : Int)) (hkt : Sd E K tgt kt) (hkf : Sd E K (pc + 3) kf) : Sd E K pc (xif (fun x => x ≤ 0) kt kf) := by
  obtain ⟨p, e, s, m, args, below, meth, c, ⟨hx, hb, hml, hown, hts⟩, hr, hlk, hnm, hS, hK, rfl⟩ := X
  intro ls st z f h H locs A hA hn hW hL h1 h2
  unfold xif at h
  split at h
  · refine lv_if_le hx hb hd ht (fun q => ?_) (fun q => ?_)
    · exact hkt ls _ z f (h.1 q) H locs A hA hn hW hL h1 h2
    · exact hkf ls _ z f (h.2 (by first | exact q | exact fun w => w q | exact fun w => absurd w (by first | exact q | exact Int32.not_lt.mpr q | exact Int32.not_le.mpr q))) H locs A hA hn hW hL h1 h2
  · exact absurd h id
theorem sd_icmp_eq (X : EnX s0 D ids l own cc nL ret nm rm K E) {off : Int} {tgt : Nat} (hd : decode cc pc = .ok (.if_icmp .eq off, 3)) (ht : (pc : Int) + off = (tgt : Int)) (hkt : Sd E K tgt kt) (hkf : Sd E K (pc + 3) kf) : Sd E K pc (xicmp (fun x y => x = y) kt kf) := by
  obtain ⟨p, e, s, m, args, below, meth, c, ⟨hx, hb, hml, hown, hts⟩, hr, hlk, hnm, hS, hK, rfl⟩ := X
  intro ls st z f h H locs A hA hn hW hL h1 h2
  unfold xicmp at h
  split at h
  · refine lv_icmp_eq hx hb hd ht (fun q => ?_) (fun q => ?_)
    · exact hkt ls _ z f (h.1 q) H locs A hA hn hW hL h1 h2
    · exact hkf ls _ z f (h.2 (by first | exact q | exact fun w => w q | exact fun w => absurd w (by first | exact q | exact Int32.not_lt.mpr q | exact Int32.not_le.mpr q))) H locs A hA hn hW hL h1 h2
  · exact absurd h id
theorem sd_icmp_ne (X : EnX s0 D ids l own cc nL ret nm rm K E) {off : Int} {tgt : Nat} (hd : decode cc pc = .ok (.if_icmp .ne off, 3)) (ht : (pc : Int) + off = (tgt : Int)) (hkt : Sd E K tgt kt) (hkf : Sd E K (pc + 3) kf) : Sd E K pc (xicmp (fun x y => ¬ x = y) kt kf) := by
  obtain ⟨p, e, s, m, args, below, meth, c, ⟨hx, hb, hml, hown, hts⟩, hr, hlk, hnm, hS, hK, rfl⟩ := X
  intro ls st z f h H locs A hA hn hW hL h1 h2
  unfold xicmp at h
  split at h
  · refine lv_icmp_ne hx hb hd ht (fun q => ?_) (fun q => ?_)
    · exact hkt ls _ z f (h.1 q) H locs A hA hn hW hL h1 h2
    · exact hkf ls _ z f (h.2 (by first | exact q | exact fun w => w q | exact fun w => absurd w (by first | exact q | exact Int32.not_lt.mpr q | exact Int32.not_le.mpr q))) H locs A hA hn hW hL h1 h2
  · exact absurd h id
theorem sd_icmp_lt (X : EnX s0 D ids l own cc nL ret nm rm K E) {off : Int} {tgt : Nat} (hd : decode cc pc = .ok (.if_icmp .lt off, 3)) (ht : (pc : Int) + off = (tgt : Int)) (hkt : Sd E K tgt kt) (hkf : Sd E K (pc + 3) kf) : Sd E K pc (xicmp (fun x y => x < y) kt kf) := by
  obtain ⟨p, e, s, m, args, below, meth, c, ⟨hx, hb, hml, hown, hts⟩, hr, hlk, hnm, hS, hK, rfl⟩ := X
  intro ls st z f h H locs A hA hn hW hL h1 h2
  unfold xicmp at h
  split at h
  · refine lv_icmp_lt hx hb hd ht (fun q => ?_) (fun q => ?_)
    · exact hkt ls _ z f (h.1 q) H locs A hA hn hW hL h1 h2
    · exact hkf ls _ z f (h.2 (by first | exact q | exact fun w => w q | exact fun w => absurd w (by first | exact q | exact Int32.not_lt.mpr q | exact Int32.not_le.mpr q))) H locs A hA hn hW hL h1 h2
  · exact absurd h id
theorem sd_icmp_ge (X : EnX s0 D ids l own cc nL ret nm rm K E) {off : Int} {tgt : Nat} (hd : decode cc pc = .ok (.if_icmp .ge off, 3)) (ht : (pc : Int) + off = (tgt : Int)) (hkt : Sd E K tgt kt) (hkf : Sd E K (pc + 3) kf) : Sd E K pc (xicmp (fun x y => y ≤ x) kt kf) := by
  obtain ⟨p, e, s, m, args, below, meth, c, ⟨hx, hb, hml, hown, hts⟩, hr, hlk, hnm, hS, hK, rfl⟩ := X
  intro ls st z f h H locs A hA hn hW hL h1 h2
  unfold xicmp at h
  split at h
  · refine lv_icmp_ge hx hb hd ht (fun q => ?_) (fun q => ?_)
    · exact hkt ls _ z f (h.1 q) H locs A hA hn hW hL h1 h2
    · exact hkf ls _ z f (h.2 (by first | exact q | exact fun w => w q | exact fun w => absurd w (by first | exact q | exact Int32.not_lt.mpr q | exact Int32.not_le.mpr q))) H locs A hA hn hW hL h1 h2
  · exact absurd h id
theorem sd_icmp_gt (X : EnX s0 D ids l own cc nL ret nm rm K E) {off : Int} {tgt : Nat} (hd : decode cc pc = .ok (.if_icmp .gt off, 3)) (ht : (pc : Int) + off = (tgt : Int)) (hkt : Sd E K tgt kt) (hkf : Sd E K (pc + 3) kf) : Sd E K pc (xicmp (fun x y => y < x) kt kf) := by
  obtain ⟨p, e, s, m, args, below, meth, c, ⟨hx, hb, hml, hown, hts⟩, hr, hlk, hnm, hS, hK, rfl⟩ := X
  intro ls st z f h H locs A hA hn hW hL h1 h2
  unfold xicmp at h
  split at h
  · refine lv_icmp_gt hx hb hd ht (fun q => ?_) (fun q => ?_)
    · exact hkt ls _ z f (h.1 q) H locs A hA hn hW hL h1 h2
    · exact hkf ls _ z f (h.2 (by first | exact q | exact fun w => w q | exact fun w => absurd w (by first | exact q | exact Int32.not_lt.mpr q | exact Int32.not_le.mpr q))) H locs A hA hn hW hL h1 h2
  · exact absurd h id
theorem sd_icmp_le (X : EnX s0 D ids l own cc nL ret nm rm K E) {off : Int} {tgt : Nat} (hd : decode cc pc = .ok (.if_icmp .le off, 3)) (ht : (pc : Int) + off = (tgt : Int)) (hkt : Sd E K tgt kt) (hkf : Sd E K (pc + 3) kf) : Sd E K pc (xicmp (fun x y => x ≤ y) kt kf) := by
  obtain ⟨p, e, s, m, args, below, meth, c, ⟨hx, hb, hml, hown, hts⟩, hr, hlk, hnm, hS, hK, rfl⟩ := X
  intro ls st z f h H locs A hA hn hW hL h1 h2
  unfold xicmp at h
  split at h
  · refine lv_icmp_le hx hb hd ht (fun q => ?_) (fun q => ?_)
    · exact hkt ls _ z f (h.1 q) H locs A hA hn hW hL h1 h2
    · exact hkf ls _ z f (h.2 (by first | exact q | exact fun w => w q | exact fun w => absurd w (by first | exact q | exact Int32.not_lt.mpr q | exact Int32.not_le.mpr q))) H locs A hA hn hW hL h1 h2
  · exact absurd h id
theorem sd_goto (X : EnX s0 D ids l own cc nL ret nm rm K E) {off : Int} {tgt : Nat} (hd : decode cc pc = .ok (.goto off, 3)) (ht : (pc : Int) + off = (tgt : Int)) (hk : Sd E K tgt k) : Sd E K pc k := by
  obtain ⟨p, e, s, m, args, below, meth, c, ⟨hx, hb, hml, hown, hts⟩, hr, hlk, hnm, hS, hK, rfl⟩ := X
  intro ls st z f h H locs A hA hn hW hL h1 h2
  exact lv_goto hx hb hd ht (hk ls _ z f h H locs A hA hn hW hL h1 h2)
theorem sd_tab (X : EnX s0 D ids l own cc nL ret nm rm K E) {dflt lo hi : Int} {offs : Array Int} {len : Nat} {ks : List Xf} {tgts : List Nat} {td : Nat} (hd : decode cc pc = .ok (.tableswitch dflt lo hi offs, len)) (hhi : hi + 1 = lo + ks.length) (htl : tgts.length = ks.length) (ho : offs.toList = tgts.map (fun (t : Nat) => ((t : Int) - (pc : Int)))) (htd : (pc : Int) + dflt = (td : Int)) (hks : ∀ (i : Nat) (k : Xf) (t : Nat), ks[i]? = some k → tgts[i]? = some t → Sd E K t k) (hkd : Sd E K td kf) : Sd E K pc (xtab lo ks kf) := by
  obtain ⟨p, e, s, m, args, below, meth, c, ⟨hx, hb, hml, hown, hts⟩, hr, hlk, hnm, hS, hK, rfl⟩ := X
  intro ls st z f h H locs A hA hn hW hL h1 h2
  unfold xtab at h
  split at h
  · rename_i x r
    by_cases q : x.toInt < lo ∨ hi < x.toInt
    · exact lv_tableOut hx hb hd q htd (hkd ls _ z f (h.2 (by omega)) H locs A hA hn hW hL h1 h2)
    · have q1 : ¬ x.toInt < lo := fun w => q (Or.inl w)
      have q2 : ¬ hi < x.toInt := fun w => q (Or.inr w)
      have q3 : (x.toInt - lo).toNat < ks.length := by omega
      have q4 : (x.toInt - lo).toNat < tgts.length := by omega
      have ho2 : offs[(x.toInt - lo).toNat]? = some (((tgts[(x.toInt - lo).toNat]'q4 : Nat) : Int) - (pc : Int)) := by
        rw [← Array.getElem?_toList, ho]
        simp [q4]
      exact lv_tableIn hx hb hd q1 q2 ho2 (by omega) (hks _ _ _ (List.getElem?_eq_getElem q3) (List.getElem?_eq_getElem q4) ls _ z f (xtabL_at ks lo h.1 _ _ (List.getElem?_eq_getElem q3) (by omega)) H locs A hA hn hW hL h1 h2)
  · exact absurd h id
theorem enRet {s s0 : State} {D : va_G} {ids : Nat → ClassId} {K : Kr} {a : Array Value} {H : Heap} {z : Nat} {f : Fm} {r : Option Value} (hW : enW s0 D ids z f H) (h : K r z f) : ∀ t : State, t.heap = H → s.WarmedH t.vm → enQ s0 D ids K a s (.returned r) t := fun t ht _ => ⟨r, z, f, rfl, h, by rw [ht]; exact hW⟩
theorem sd_ret {ty : FieldType} (X : EnX s0 D ids l own cc nL (some ty) nm rm K E) (hd : decode cc pc = .ok (.ireturn, 1)) : Sd E K pc (xret ty) := by
  obtain ⟨p, e, s, m, args, below, meth, c, ⟨hx, hb, hml, hown, hts⟩, hr, hlk, hnm, hS, hK, rfl⟩ := X
  intro ls st z f h H locs A hA hn hW hL h1 h2
  unfold xret at h
  split at h
  · obtain ⟨q1, h⟩ := h
    refine W.widen (k := rm.cells) (n := rm.slots) (Nat.sub_le _ _) (Nat.sub_le _ _) ?_
    exact W.zret hx hb hr q1 (enRet hW h) hL hd hlk
  · exact absurd h id
theorem sd_lret  (X : EnX s0 D ids l own cc nL (some .long) nm rm K E) (hd : decode cc pc = .ok (.lreturn, 1)) : Sd E K pc (xlret) := by
  obtain ⟨p, e, s, m, args, below, meth, c, ⟨hx, hb, hml, hown, hts⟩, hr, hlk, hnm, hS, hK, rfl⟩ := X
  intro ls st z f h H locs A hA hn hW hL h1 h2
  unfold xlret at h
  split at h
  · have h := h
    refine W.widen (k := rm.cells) (n := rm.slots) (Nat.sub_le _ _) (Nat.sub_le _ _) ?_
    exact W.lret hx hb hr (enRet hW h) hL hd hlk
  · exact absurd h id
theorem sd_fret  (X : EnX s0 D ids l own cc nL (some .float) nm rm K E) (hd : decode cc pc = .ok (.freturn, 1)) : Sd E K pc (xfret) := by
  obtain ⟨p, e, s, m, args, below, meth, c, ⟨hx, hb, hml, hown, hts⟩, hr, hlk, hnm, hS, hK, rfl⟩ := X
  intro ls st z f h H locs A hA hn hW hL h1 h2
  unfold xfret at h
  split at h
  · have h := h
    refine W.widen (k := rm.cells) (n := rm.slots) (Nat.sub_le _ _) (Nat.sub_le _ _) ?_
    exact W.fret hx hb hr (enRet hW h) hL hd hlk
  · exact absurd h id
theorem sd_dret  (X : EnX s0 D ids l own cc nL (some .double) nm rm K E) (hd : decode cc pc = .ok (.dreturn, 1)) : Sd E K pc (xdret) := by
  obtain ⟨p, e, s, m, args, below, meth, c, ⟨hx, hb, hml, hown, hts⟩, hr, hlk, hnm, hS, hK, rfl⟩ := X
  intro ls st z f h H locs A hA hn hW hL h1 h2
  unfold xdret at h
  split at h
  · have h := h
    refine W.widen (k := rm.cells) (n := rm.slots) (Nat.sub_le _ _) (Nat.sub_le _ _) ?_
    exact W.dret hx hb hr (enRet hW h) hL hd hlk
  · exact absurd h id
theorem sd_vret  (X : EnX s0 D ids l own cc nL (none) nm rm K E) (hd : decode cc pc = .ok (.return_, 1)) : Sd E K pc (xvret) := by
  obtain ⟨p, e, s, m, args, below, meth, c, ⟨hx, hb, hml, hown, hts⟩, hr, hlk, hnm, hS, hK, rfl⟩ := X
  intro ls st z f h H locs A hA hn hW hL h1 h2
  unfold xvret at h
  split at h
  · have h := h
    refine W.widen (k := rm.cells) (n := rm.slots) (Nat.sub_le _ _) (Nat.sub_le _ _) ?_
    exact W.vret hx hb hr (enRet hW h) hL hd hlk
  · exact absurd h id
theorem sd_aret {ty : FieldType} (X : EnX s0 D ids l own cc nL (some ty) nm rm K E) (hty : (∃ n, ty = .object n) ∨ ∃ t, ty = .array t) (hd : decode cc pc = .ok (.areturn, 1)) : Sd E K pc (xaret) := by
  obtain ⟨p, e, s, m, args, below, meth, c, ⟨hx, hb, hml, hown, hts⟩, hr, hlk, hnm, hS, hK, rfl⟩ := X
  intro ls st z f h H locs A hA hn hW hL h1 h2
  unfold xaret at h
  split at h
  · refine W.widen (k := rm.cells) (n := rm.slots) (Nat.sub_le _ _) (Nat.sub_le _ _) ?_
    exact W.aret hx hb hr hty (Or.inr ⟨_, rfl⟩) (enRet hW h) hL hd hlk
  · exact absurd h id
end EI
