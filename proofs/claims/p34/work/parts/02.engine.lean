/-! THE ENGINE: a judgement E over a picture of the heap (f : address ↦ what lies there), a transformer for each instruction, and why it is sound -/
/-- an array's kind: below 5 ours, from 5 on what stands since before -/
def tyA : Nat → FieldType := fun t => match t with
  | 0 => .byte
  | 1 => .int
  | 2 => .boolean
  | 3 => .object "FortHeralds$Country"
  | 4 => .array .int
  | 5 => .object "FortHeralds$Kind"
  | 6 => .object "java/lang/String"
  | 7 => .int
  | _ => .byte
abbrev Ce : Type := (Nat × Nat × ((Nat → Int32) ⊕ (Nat → Option Nat))) ⊕ (Nat × List Value)
abbrev Fm : Type := Nat → Option Ce
abbrev Ls : Type := List (Option Value)
abbrev Zz : Type := Nat × Nat × Nat
abbrev Ej : Type := Nat → Ls → List Value → Zz → Fm → Prop
abbrev Kr : Type := Option Value → Nat → Fm → Prop
abbrev Xf : Type := Ls → List Value → Zz → Fm → Ej → Kr → Prop
abbrev Spt : Type := List Value → Nat → Fm → Kr → Prop
def arG (g : (Nat → Int32) ⊕ (Nat → Option Nat)) (j : Nat) : Value := match g with
  | .inl f => .int (f j)
  | .inr f => va_rf (f j)
def cvE (ids : Nat → ClassId) (ce : Ce) : va_E := match ce with
  | .inl (t, n, .inl g) => .inl (ids t, n, .inl g)
  | .inl (t, n, .inr g) => .inl (ids t, n, .inr (.inr (.inr (.inr g))))
  | .inr (ci, fs) => .inr (ci, fs)
/-- constant objects: class, and the fields that are known: owner, name, descriptor -/
def roCl : List (String × List (String × String × String)) := [("FortHeralds$Kind", [("FortHeralds$Kind", "form", "Ljava/lang/String;"), ("java/lang/Enum", "ordinal", "I")]), ("java/lang/String", [("java/lang/String", "value", "[B"), ("java/lang/String", "coder", "B")])]
def enRO (s0 : State) (a : Nat) (ce : Ce) : Prop := match ce with
  | .inl (t, n, g) => va_T (tyA t) a n (arG g) (fun q => s0.heap.size ≤ q) s0 s0.heap ∧ ∃ cell : Cell, s0.heap[a]? = some cell ∧ cell.slots.size = n
  | .inr (ci, fs) => ∃ r, roCl[ci - 12]? = some r ∧ va_O r.1 a (fun q => s0.heap.size ≤ q) s0 s0.heap ∧ ∀ (k : Nat) (v : Value), fs[k]? = some v → ∃ x, r.2[k]? = some x ∧ va_OF x.1 x.2.1 x.2.2 v a (fun q => s0.heap.size ≤ q) s0 s0.heap
def ceOwn (ce : Ce) : Bool := match ce with
  | .inl (t, _, _) => decide (t < 5)
  | .inr (ci, _) => decide (ci < 12)
def enC (s0 : State) (D : va_G) (ids : Nat → ClassId) (a : Nat) (ce : Ce) (H : Heap) : Prop :=
  if ceOwn ce = true then s0.heap.size ≤ a ∧ va_at D vwCl (a, cvE ids ce) H else a < s0.heap.size ∧ enRO s0 a ce
def enW (s0 : State) (D : va_G) (ids : Nat → ClassId) (z : Nat) (f : Fm) (H : Heap) : Prop :=
  H.size = z ∧ s0.heap.size ≤ z ∧ (∀ q : Nat, q < s0.heap.size → H[q]? = s0.heap[q]?) ∧ ∀ (a : Nat) (ce : Ce), f a = some ce → enC s0 D ids a ce H
def enL (A : Array Slot) (ls : Ls) : Prop := A.size = ls.length ∧ lv_wf A ∧ ∀ (i : Nat) (v : Value), ls[i]? = some (some v) → A[i]? = some (.val v)
def tysL (ids : Nat → ClassId) : List (ClassId × FieldType) := [(ids 0, .byte), (ids 1, .int), (ids 2, .boolean), (ids 3, .object "FortHeralds$Country"), (ids 4, .array .int)]
def enQ (s0 : State) (D : va_G) (ids : Nat → ClassId) (K : Kr) : Array Value → State → Outcome → State → Prop := fun _ _ o t => ∃ (r : Option Value) (z : Nat) (f : Fm), o = .returned r ∧ K r z f ∧ enW s0 D ids z f t.heap
def enS (s0 s : State) : Prop := s0.WarmedH s.vm ∧ s0.heap.size ≤ s.heap.size ∧ ∀ q : Nat, q < s0.heap.size → s.heap[q]? = s0.heap[q]?
/-- E is the judgement of a method under way: its class, code, locals, answer's type, name, room; what holds at its end -/
def EnX (s0 : State) (D : va_G) (ids : Nat → ClassId) (l : Launch) (own : String) (cc : ByteArray) (nL : Nat) (ret : Option FieldType) (nm : String) (rm : Room) (K : Kr) (E : Ej) : Prop :=
  ∃ (p : Program) (e : Env) (s : State) (m : MethodId) (args : Array Value) (below : List Frame) (meth : Method) (c : Code),
    (p.tables.exec = Jvm.exec ∧ c.code = cc ∧ c.maxLocals = nL ∧ s.vm.findClass own = some m.cls ∧ ∀ w ∈ bigW, w.before args s = true) ∧ meth.sig.returnType = ret ∧ meth.locks = false ∧ meth.name = nm ∧ enS s0 s ∧ va_K D vwCl (tysL ids) s ∧
    E = fun pc ls st z f => ∀ (H : Heap) (locs : List Loc) (A : Array Slot), enL A ls → ls.length = nL → enW s0 D ids z.1 f H → (∀ q ∈ locs, s0.heap.size ≤ q.base) → z.2.1 ≤ rm.cells → z.2.2 ≤ rm.slots →
      W p l e rm s m args below meth c H locs (rm.cells - z.2.1) (rm.slots - z.2.2) (MQ below (enQ s0 D ids K) args s rm.cells rm.slots (fun q => s0.heap.size ≤ q)) (F0 m pc A st)
def Sd (E : Ej) (K : Kr) (pc : Nat) (q : Xf) : Prop := ∀ (ls : Ls) (st : List Value) (z : Zz) (f : Fm), q ls st z f E K → E pc ls st z f
/-- a stop: the judgement itself -/
def xs (pc : Nat) (ls : Ls) (st : List Value) (z : Zz) (f : Fm) (E : Ej) (_ : Kr) : Prop := E pc ls st z f
theorem sd_s {E : Ej} {K : Kr} (pc : Nat) : Sd E K pc (xs pc) := fun _ _ _ _ h => h
-- ----- transformers
def xpush (v : Value) (k : Xf) (ls : Ls) (st : List Value) (z : Zz) (f : Fm) (E : Ej) (R : Kr) : Prop := k ls (v :: st) z f E R
def xiload (i : Nat) (k : Xf) (ls : Ls) (st : List Value) (z : Zz) (f : Fm) (E : Ej) (R : Kr) : Prop := match ls[i]? with
  | some (some (.int v)) => k ls (.int v :: st) z f E R
  | _ => False
def xaload (i : Nat) (k : Xf) (ls : Ls) (st : List Value) (z : Zz) (f : Fm) (E : Ej) (R : Kr) : Prop := match ls[i]? with
  | some (some (.ref v)) => k ls (.ref v :: st) z f E R
  | _ => False
def xlload (i : Nat) (k : Xf) (ls : Ls) (st : List Value) (z : Zz) (f : Fm) (E : Ej) (R : Kr) : Prop := match ls[i]? with
  | some (some (.long v)) => k ls (.long v :: st) z f E R
  | _ => False
def xfload (i : Nat) (k : Xf) (ls : Ls) (st : List Value) (z : Zz) (f : Fm) (E : Ej) (R : Kr) : Prop := match ls[i]? with
  | some (some (.float v)) => k ls (.float v :: st) z f E R
  | _ => False
def xdload (i : Nat) (k : Xf) (ls : Ls) (st : List Value) (z : Zz) (f : Fm) (E : Ej) (R : Kr) : Prop := match ls[i]? with
  | some (some (.double v)) => k ls (.double v :: st) z f E R
  | _ => False
/-- what lay below a new local, if it was wide, is gone -/
def lkill (ls : Ls) (i : Nat) : Ls := match i with
  | 0 => ls
  | j + 1 => match ls[j]? with
    | some (some (.long _)) => ls.set j none
    | some (some (.double _)) => ls.set j none
    | _ => ls
def xistore (i : Nat) (k : Xf) (ls : Ls) (st : List Value) (z : Zz) (f : Fm) (E : Ej) (R : Kr) : Prop := match st with
  | .int v :: r => i < ls.length ∧ k ((lkill ls i).set i (some (.int v))) r z f E R
  | _ => False
def xastore (i : Nat) (k : Xf) (ls : Ls) (st : List Value) (z : Zz) (f : Fm) (E : Ej) (R : Kr) : Prop := match st with
  | .ref v :: r => i < ls.length ∧ k ((lkill ls i).set i (some (.ref v))) r z f E R
  | _ => False
def xfstore (i : Nat) (k : Xf) (ls : Ls) (st : List Value) (z : Zz) (f : Fm) (E : Ej) (R : Kr) : Prop := match st with
  | .float v :: r => i < ls.length ∧ k ((lkill ls i).set i (some (.float v))) r z f E R
  | _ => False
def xlstore (i : Nat) (k : Xf) (ls : Ls) (st : List Value) (z : Zz) (f : Fm) (E : Ej) (R : Kr) : Prop := match st with
  | .long v :: r => i + 1 < ls.length ∧ k (((lkill ls i).set i (some (.long v))).set (i + 1) none) r z f E R
  | _ => False
def xdstore (i : Nat) (k : Xf) (ls : Ls) (st : List Value) (z : Zz) (f : Fm) (E : Ej) (R : Kr) : Prop := match st with
  | .double v :: r => i + 1 < ls.length ∧ k (((lkill ls i).set i (some (.double v))).set (i + 1) none) r z f E R
  | _ => False
def xiinc (i : Nat) (d : Int32) (k : Xf) (ls : Ls) (st : List Value) (z : Zz) (f : Fm) (E : Ej) (R : Kr) : Prop := match ls[i]? with
  | some (some (.int v)) => k ((lkill ls i).set i (some (.int (v + d)))) st z f E R
  | _ => False
def xbin (o : Int32 → Int32 → Int32) (k : Xf) (ls : Ls) (st : List Value) (z : Zz) (f : Fm) (E : Ej) (R : Kr) : Prop := match st with
  | .int y :: .int x :: r => k ls (.int (o x y) :: r) z f E R
  | _ => False
def xdiv (o : Int32 → Int32 → Int32) (k : Xf) (ls : Ls) (st : List Value) (z : Zz) (f : Fm) (E : Ej) (R : Kr) : Prop := match st with
  | .int y :: .int x :: r => ¬ y = 0 ∧ k ls (.int (o x y) :: r) z f E R
  | _ => False
def xun (o : Int32 → Int32) (k : Xf) (ls : Ls) (st : List Value) (z : Zz) (f : Fm) (E : Ej) (R : Kr) : Prop := match st with
  | .int x :: r => k ls (.int (o x) :: r) z f E R
  | _ => False
def xlbin (o : Int64 → Int64 → Int64) (k : Xf) (ls : Ls) (st : List Value) (z : Zz) (f : Fm) (E : Ej) (R : Kr) : Prop := match st with
  | .long y :: .long x :: r => k ls (.long (o x y) :: r) z f E R
  | _ => False
def xi2l (k : Xf) (ls : Ls) (st : List Value) (z : Zz) (f : Fm) (E : Ej) (R : Kr) : Prop := match st with
  | .int x :: r => k ls (.long x.toInt64 :: r) z f E R
  | _ => False
def xi2f (k : Xf) (ls : Ls) (st : List Value) (z : Zz) (f : Fm) (E : Ej) (R : Kr) : Prop := match st with
  | .int x :: r => k ls (.float (FP.i2f x) :: r) z f E R
  | _ => False
def xi2d (k : Xf) (ls : Ls) (st : List Value) (z : Zz) (f : Fm) (E : Ej) (R : Kr) : Prop := match st with
  | .int x :: r => k ls (.double (FP.i2d x) :: r) z f E R
  | _ => False
def xlcmp (k : Xf) (ls : Ls) (st : List Value) (z : Zz) (f : Fm) (E : Ej) (R : Kr) : Prop := match st with
  | .long y :: .long x :: r => k ls (.int (lg_cmp x y) :: r) z f E R
  | _ => False
def xfcmp (op : CmpOp) (k : Xf) (ls : Ls) (st : List Value) (z : Zz) (f : Fm) (E : Ej) (R : Kr) : Prop := match st with
  | .float y :: .float x :: r => k ls (.int (Op.cmpValue (FP.fcmp x y) op) :: r) z f E R
  | _ => False
def xdcmp (op : CmpOp) (k : Xf) (ls : Ls) (st : List Value) (z : Zz) (f : Fm) (E : Ej) (R : Kr) : Prop := match st with
  | .double y :: .double x :: r => k ls (.int (Op.cmpValue (FP.dcmp x y) op) :: r) z f E R
  | _ => False
def xfdiv (k : Xf) (ls : Ls) (st : List Value) (z : Zz) (f : Fm) (E : Ej) (R : Kr) : Prop := match st with
  | .float y :: .float x :: r => vf_n32 (FP.fdiv x y) ∧ k ls (.float (FP.fdiv x y) :: r) z f E R
  | _ => False
def xddiv (k : Xf) (ls : Ls) (st : List Value) (z : Zz) (f : Fm) (E : Ej) (R : Kr) : Prop := match st with
  | .double y :: .double x :: r => vf_n64 (FP.ddiv x y) ∧ k ls (.double (FP.ddiv x y) :: r) z f E R
  | _ => False
def c1 (v : Value) : Prop := match v with
  | .long _ => False
  | .double _ => False
  | _ => True
theorem c1_cat {v : Value} (h : c1 v) : v.category = 1 := by cases v <;> first | rfl | exact absurd h id
def xdup (k : Xf) (ls : Ls) (st : List Value) (z : Zz) (f : Fm) (E : Ej) (R : Kr) : Prop := match st with
  | v :: r => c1 v ∧ k ls (v :: v :: r) z f E R
  | _ => False
def xpop (k : Xf) (ls : Ls) (st : List Value) (z : Zz) (f : Fm) (E : Ej) (R : Kr) : Prop := match st with
  | v :: r => c1 v ∧ k ls r z f E R
  | _ => False
def xdup_x1 (k : Xf) (ls : Ls) (st : List Value) (z : Zz) (f : Fm) (E : Ej) (R : Kr) : Prop := match st with
  | v :: w :: r => c1 v ∧ c1 w ∧ k ls (v :: w :: v :: r) z f E R
  | _ => False
def xdup2 (k : Xf) (ls : Ls) (st : List Value) (z : Zz) (f : Fm) (E : Ej) (R : Kr) : Prop := match st with
  | v :: w :: r => c1 v ∧ c1 w ∧ k ls (v :: w :: v :: w :: r) z f E R
  | _ => False
/-- a branch on one int, on two: where the condition holds, where not -/
def xif (P : Int32 → Prop) (kt kf : Xf) (ls : Ls) (st : List Value) (z : Zz) (f : Fm) (E : Ej) (R : Kr) : Prop := match st with
  | .int x :: r => (P x → kt ls r z f E R) ∧ (¬ P x → kf ls r z f E R)
  | _ => False
def xicmp (P : Int32 → Int32 → Prop) (kt kf : Xf) (ls : Ls) (st : List Value) (z : Zz) (f : Fm) (E : Ej) (R : Kr) : Prop := match st with
  | .int y :: .int x :: r => (P x y → kt ls r z f E R) ∧ (¬ P x y → kf ls r z f E R)
  | _ => False
/-- a table: from lo on -/
def xtabL (x : Int) (ls : Ls) (st : List Value) (z : Zz) (f : Fm) (E : Ej) (R : Kr) : Int → List Xf → Prop
  | _, [] => True
  | lo, k :: ks => (x = lo → k ls st z f E R) ∧ xtabL x ls st z f E R (lo + 1) ks
def xtab (lo : Int) (ks : List Xf) (dflt : Xf) (ls : Ls) (st : List Value) (z : Zz) (f : Fm) (E : Ej) (R : Kr) : Prop := match st with
  | .int x :: r => xtabL x.toInt ls r z f E R lo ks ∧ ((x.toInt < lo ∨ lo + ks.length ≤ x.toInt) → dflt ls r z f E R)
  | _ => False
theorem xtabL_at {x : Int} {ls : Ls} {st : List Value} {z : Zz} {f : Fm} {E : Ej} {R : Kr} : ∀ (ks : List Xf) (lo : Int), xtabL x ls st z f E R lo ks → ∀ (i : Nat) (k : Xf), ks[i]? = some k → x = lo + i → k ls st z f E R
  | [], _, _, i, k, h, _ => by simp at h
  | k0 :: ks, lo, h, i, k, hk, hx => by
    cases i with
    | zero =>
      cases hk
      exact h.1 (by simpa using hx)
    | succ i => exact xtabL_at ks (lo + 1) h.2 i k hk (by rw [hx]; push_cast; omega)
def xget (ci k : Nat) (nx : Xf) (ls : Ls) (st : List Value) (z : Zz) (f : Fm) (E : Ej) (R : Kr) : Prop := match st with
  | .ref a :: r => match f a with
    | some (.inr (c, fs)) => c = ci ∧ (match fs[k]? with
      | some v => nx ls (v :: r) z f E R
      | none => False)
    | _ => False
  | _ => False
def okv (ty : FieldType) (v : Value) : Prop := narrow ty v = v ∧ fits ty v = true
def xput (ci k : Nat) (ty : FieldType) (nx : Xf) (ls : Ls) (st : List Value) (z : Zz) (f : Fm) (E : Ej) (R : Kr) : Prop := match st with
  | v :: .ref a :: r => match f a with
    | some (.inr (c, fs)) => c = ci ∧ k < fs.length ∧ okv ty v ∧ nx ls r z (va_up f a (some (.inr (ci, fs.set k v)))) E R
    | _ => False
  | _ => False
def xald (t1 t2 : Nat) (nx : Xf) (ls : Ls) (st : List Value) (z : Zz) (f : Fm) (E : Ej) (R : Kr) : Prop := match st with
  | .int i :: .ref a :: r => match f a with
    | some (.inl (t, n, g)) => (t = t1 ∨ t = t2) ∧ vp_in i n ∧ nx ls (arG g i.toNatClampNeg :: r) z f E R
    | _ => False
  | _ => False
def xast (t1 : Nat) (nx : Xf) (ls : Ls) (st : List Value) (z : Zz) (f : Fm) (E : Ej) (R : Kr) : Prop := match st with
  | .int x :: .int i :: .ref a :: r => match f a with
    | some (.inl (t, n, .inl g)) => t = t1 ∧ vp_in i n ∧ nx ls r z (va_up f a (some (.inl (t1, n, .inl (upd g i.toNatClampNeg (vp_nar (tyA t1) x)))))) E R
    | _ => False
  | _ => False
def xalen (nx : Xf) (ls : Ls) (st : List Value) (z : Zz) (f : Fm) (E : Ej) (R : Kr) : Prop := match st with
  | .ref a :: r => match f a with
    | some (.inl (_, n, _)) => nx ls (.int (nI n) :: r) z f E R
    | _ => False
  | _ => False
def xnew (ci N : Nat) (fs : List Value) (nx : Xf) (ls : Ls) (st : List Value) (z : Zz) (f : Fm) (E : Ej) (R : Kr) : Prop :=
  1 ≤ z.2.1 ∧ N ≤ z.2.2 ∧ nx ls (.ref z.1 :: st) (z.1 + 1, z.2.1 - 1, z.2.2 - N) (va_up f z.1 (some (.inr (ci, fs)))) E R
def xnewa (t : Nat) (nx : Xf) (ls : Ls) (st : List Value) (z : Zz) (f : Fm) (E : Ej) (R : Kr) : Prop := match st with
  | .int n :: r => ¬ n < 0 ∧ n.toNatClampNeg ≤ 65536 ∧ 1 ≤ z.2.1 ∧ n.toNatClampNeg ≤ z.2.2 ∧ nx ls (.ref z.1 :: r) (z.1 + 1, z.2.1 - 1, z.2.2 - n.toNatClampNeg) (va_up f z.1 (some (.inl (t, n.toNatClampNeg, .inl (fun _ => 0))))) E R
  | _ => False
def c1s (st : List Value) : Prop := (st.map fun v => v.category).sum ≤ 8
/-- a call: n arguments (the receiver among them), the callee's words, the room that it takes; vc: the receiver's class is looked at (its number + 1) -/
def recvOk (vc : Nat) (as : List Value) (f : Fm) : Prop := match vc with
  | 0 => True
  | c + 1 => match as with
    | .ref a :: _ => match f a with
      | some (.inr (ci, _)) => ci = c
      | _ => False
    | _ => False
/-- what goes on behind a call -/
def kont (nx : Xf) (ls : Ls) (rest : List Value) (c s : Nat) (E : Ej) (R : Kr) (r : Option Value) (z' : Nat) (f' : Fm) : Prop := nx ls (r.toList ++ rest) (z', c, s) f' E R
def xcall (n vc : Nat) (Sp : Spt) (mc ms : Nat) (nx : Xf) (ls : Ls) (st : List Value) (z : Zz) (f : Fm) (E : Ej) (R : Kr) : Prop :=
  n ≤ st.length ∧ c1s (st.drop n) ∧ mc ≤ z.2.1 ∧ ms ≤ z.2.2 ∧ recvOk vc (st.take n).reverse f ∧ Sp (st.take n).reverse z.1 f (kont nx ls (st.drop n) (z.2.1 - mc) (z.2.2 - ms) E R)
def xret (ty : FieldType) (_ : Ls) (st : List Value) (z : Zz) (f : Fm) (_ : Ej) (R : Kr) : Prop := match st with
  | [.int v] => narrow ty (.int v) = .int v ∧ R (some (.int v)) z.1 f
  | _ => False
def xlret (_ : Ls) (st : List Value) (z : Zz) (f : Fm) (_ : Ej) (R : Kr) : Prop := match st with
  | [.long v] => R (some (.long v)) z.1 f
  | _ => False
def xfret (_ : Ls) (st : List Value) (z : Zz) (f : Fm) (_ : Ej) (R : Kr) : Prop := match st with
  | [.float v] => R (some (.float v)) z.1 f
  | _ => False
def xdret (_ : Ls) (st : List Value) (z : Zz) (f : Fm) (_ : Ej) (R : Kr) : Prop := match st with
  | [.double v] => R (some (.double v)) z.1 f
  | _ => False
def xaret (_ : Ls) (st : List Value) (z : Zz) (f : Fm) (_ : Ej) (R : Kr) : Prop := match st with
  | [.ref v] => R (some (.ref v)) z.1 f
  | _ => False
def xvret (_ : Ls) (st : List Value) (z : Zz) (f : Fm) (_ : Ej) (R : Kr) : Prop := match st with
  | [] => R none z.1 f
  | _ => False
