/-! the law -/
def stB (V : Nat → Nat) (b B : Nat) (W : Option Cm) (z : Nat) (f : Fm) : Prop := (∃ M r d L Ln, isO V f b z M r d L W [] Ln ∧ Inv B M ∧ ∀ X ∈ L, Inv B X) ∧ ∀ X, W = some X → Inv B X
theorem stB.mono {V : Nat → Nat} {b B B' : Nat} {W : Option Cm} {z : Nat} {f : Fm} (h : stB V b B W z f) (hB : B ≤ B') : stB V b B' W z f := by
  obtain ⟨⟨M, r, d, L, Ln, h1, h2, h3⟩, h4⟩ := h
  exact ⟨⟨M, r, d, L, Ln, h1, h2.mono hB, fun X hX => (h3 X hX).mono hB⟩, fun X hX => (h4 X hX).mono hB⟩
theorem stB.op {V : Nat → Nat} {b B : Nat} {W : Option Cm} {z : Nat} {f : Fm} (h : stB V b B W z f) {o : Cm → Int32 → Int32 → Rw} (ho : ∀ M r d, Inv B M → okO B M (o M r d)) {K2 : Kr} (hK : ∀ v f', stB V b (B + 30) W z f' → (∀ q, q < b → f' q = f q) → K2 (some (.int v)) z f') (as0 : Nat → List Value) : SpF as0 o (as0 b) z f K2 := by
  obtain ⟨⟨M, r, d, L, Ln, h1, h2, h3⟩, h4⟩ := h
  refine ⟨V, b, M, r, d, L, W, [], Ln, B, rfl, h1, h2, fun f1 hneg g1 fr1 => hK _ f1 ⟨⟨M, _, _, L, Ln, g1, h2.mono (by omega), fun X hX => (h3 X hX).mono (by omega)⟩, fun X hX => (h4 X hX).mono (by omega)⟩ fr1, fun f1 hpos g1 fr1 => hK _ f1 ⟨⟨_, _, _, _, Ln, g1, ((ho M r d h2).pos hpos), take_in (h2.mono (by omega)) (fun X hX => (h3 X hX).mono (by omega))⟩, fun X hX => (h4 X hX).mono (by omega)⟩ fr1⟩
theorem stB.o {V : Nat → Nat} {b B : Nat} {W : Option Cm} {z : Nat} {f : Fm} (h : stB V b B W z f) : ∃ hs, f b = some (.inr (11, [.ref (b + 1), .ref (b + 2), .ref (b + 95), .ref (b + 150), .ref (b + 205), .ref (b + 702), .ref (b + 706), .ref (b + 709), .ref (b + 710), .ref (b + 712), .int (nI hs)])) := by
  obtain ⟨⟨M, r, d, L, Ln, ⟨Mm, Mt, Ms, rows, fr, rs, tv, lv, hs, hx⟩, h2, h3⟩, h4⟩ := h
  exact ⟨hs, hx.1⟩
def rm_L_law : Room := { frames := 14, cells := 609352, slots := 7274192, locals := 546 }
def q_L_law_369 (V : Nat → Nat) (ls : Ls) (st : List Value) (z : Zz) (f : Fm) (E : Ej) (R : Kr) : Prop := xret .boolean ls st z f E R
def q_L_law_368 (V : Nat → Nat) (ls : Ls) (st : List Value) (z : Zz) (f : Fm) (E : Ej) (R : Kr) : Prop := xpush (.int (nI 0)) (q_L_law_369 V) ls st z f E R
def q_L_law_364 (V : Nat → Nat) (ls : Ls) (st : List Value) (z : Zz) (f : Fm) (E : Ej) (R : Kr) : Prop := xpush (.int (nI 1)) (q_L_law_369 V) ls st z f E R
def q_L_law_361 (V : Nat → Nat) (ls : Ls) (st : List Value) (z : Zz) (f : Fm) (E : Ej) (R : Kr) : Prop := xicmp (fun x y => ¬ x = y) (q_L_law_368 V) (q_L_law_364 V) ls st z f E R
def q_L_law_359 (V : Nat → Nat) (ls : Ls) (st : List Value) (z : Zz) (f : Fm) (E : Ej) (R : Kr) : Prop := xpush (.int (-15)) (q_L_law_361 V) ls st z f E R
def q_L_law_356 (V : Nat → Nat) (ls : Ls) (st : List Value) (z : Zz) (f : Fm) (E : Ej) (R : Kr) : Prop := xcall 1 12 Sp_X12_undo 0 0 (q_L_law_359 V) ls st z f E R
def q_L_law_355 (V : Nat → Nat) (ls : Ls) (st : List Value) (z : Zz) (f : Fm) (E : Ej) (R : Kr) : Prop := xaload 1 (q_L_law_356 V) ls st z f E R
def q_L_law_352 (V : Nat → Nat) (ls : Ls) (st : List Value) (z : Zz) (f : Fm) (E : Ej) (R : Kr) : Prop := xif (fun x => ¬ x = 0) (q_L_law_368 V) (q_L_law_355 V) ls st z f E R
def q_L_law_351 (V : Nat → Nat) (ls : Ls) (st : List Value) (z : Zz) (f : Fm) (E : Ej) (R : Kr) : Prop := xlcmp (q_L_law_352 V) ls st z f E R
def q_L_law_349 (V : Nat → Nat) (ls : Ls) (st : List Value) (z : Zz) (f : Fm) (E : Ej) (R : Kr) : Prop := xlload 4 (q_L_law_351 V) ls st z f E R
def q_L_law_346 (V : Nat → Nat) (ls : Ls) (st : List Value) (z : Zz) (f : Fm) (E : Ej) (R : Kr) : Prop := xcall 1 0 (Sp_L_digest V) 0 0 (q_L_law_349 V) ls st z f E R
def q_L_law_345 (V : Nat → Nat) (ls : Ls) (st : List Value) (z : Zz) (f : Fm) (E : Ej) (R : Kr) : Prop := xaload 1 (q_L_law_346 V) ls st z f E R
def q_L_law_342 (V : Nat → Nat) (ls : Ls) (st : List Value) (z : Zz) (f : Fm) (E : Ej) (R : Kr) : Prop := xicmp (fun x y => ¬ x = y) (q_L_law_368 V) (q_L_law_345 V) ls st z f E R
def q_L_law_340 (V : Nat → Nat) (ls : Ls) (st : List Value) (z : Zz) (f : Fm) (E : Ej) (R : Kr) : Prop := xiload 6 (q_L_law_342 V) ls st z f E R
def q_L_law_337 (V : Nat → Nat) (ls : Ls) (st : List Value) (z : Zz) (f : Fm) (E : Ej) (R : Kr) : Prop := xcall 1 12 Sp_X12_restore 0 0 (q_L_law_340 V) ls st z f E R
def q_L_law_336 (V : Nat → Nat) (ls : Ls) (st : List Value) (z : Zz) (f : Fm) (E : Ej) (R : Kr) : Prop := xaload 1 (q_L_law_337 V) ls st z f E R
def q_L_law_333 (V : Nat → Nat) (ls : Ls) (st : List Value) (z : Zz) (f : Fm) (E : Ej) (R : Kr) : Prop := xif (fun x => x = 0) (q_L_law_368 V) (q_L_law_336 V) ls st z f E R
def q_L_law_332 (V : Nat → Nat) (ls : Ls) (st : List Value) (z : Zz) (f : Fm) (E : Ej) (R : Kr) : Prop := xiload 3 (q_L_law_333 V) ls st z f E R
def q_L_law_326 (V : Nat → Nat) (ls : Ls) (st : List Value) (z : Zz) (f : Fm) (E : Ej) (R : Kr) : Prop := xiinc 7 (nI 1) (xs 249) ls st z f E R
def q_L_law_325 (V : Nat → Nat) (ls : Ls) (st : List Value) (z : Zz) (f : Fm) (E : Ej) (R : Kr) : Prop := xistore 3 (q_L_law_326 V) ls st z f E R
def q_L_law_322 (V : Nat → Nat) (ls : Ls) (st : List Value) (z : Zz) (f : Fm) (E : Ej) (R : Kr) : Prop := xcall 1 0 (Sp_L_isFit V) 1377 96323 (q_L_law_325 V) ls st z f E R
def q_L_law_321 (V : Nat → Nat) (ls : Ls) (st : List Value) (z : Zz) (f : Fm) (E : Ej) (R : Kr) : Prop := xaload 1 (q_L_law_322 V) ls st z f E R
def q_L_law_320 (V : Nat → Nat) (ls : Ls) (st : List Value) (z : Zz) (f : Fm) (E : Ej) (R : Kr) : Prop := xpop (q_L_law_321 V) ls st z f E R
def q_L_law_317 (V : Nat → Nat) (ls : Ls) (st : List Value) (z : Zz) (f : Fm) (E : Ej) (R : Kr) : Prop := xcall 2 12 Sp_X12_day 0 0 (q_L_law_320 V) ls st z f E R
def q_L_law_316 (V : Nat → Nat) (ls : Ls) (st : List Value) (z : Zz) (f : Fm) (E : Ej) (R : Kr) : Prop := xpush (.int (nI 2)) (q_L_law_317 V) ls st z f E R
def q_L_law_315 (V : Nat → Nat) (ls : Ls) (st : List Value) (z : Zz) (f : Fm) (E : Ej) (R : Kr) : Prop := xaload 1 (q_L_law_316 V) ls st z f E R
def q_L_law_314 (V : Nat → Nat) (ls : Ls) (st : List Value) (z : Zz) (f : Fm) (E : Ej) (R : Kr) : Prop := xpop (q_L_law_315 V) ls st z f E R
def q_L_law_311 (V : Nat → Nat) (ls : Ls) (st : List Value) (z : Zz) (f : Fm) (E : Ej) (R : Kr) : Prop := xcall 3 12 Sp_X12_cut 0 0 (q_L_law_314 V) ls st z f E R
def q_L_law_310 (V : Nat → Nat) (ls : Ls) (st : List Value) (z : Zz) (f : Fm) (E : Ej) (R : Kr) : Prop := xdiv (fun x y => x - x / y * y) (q_L_law_311 V) ls st z f E R
def q_L_law_309 (V : Nat → Nat) (ls : Ls) (st : List Value) (z : Zz) (f : Fm) (E : Ej) (R : Kr) : Prop := xpush (.int (nI 4)) (q_L_law_310 V) ls st z f E R
def q_L_law_308 (V : Nat → Nat) (ls : Ls) (st : List Value) (z : Zz) (f : Fm) (E : Ej) (R : Kr) : Prop := xbin (fun x y => x + y) (q_L_law_309 V) ls st z f E R
def q_L_law_307 (V : Nat → Nat) (ls : Ls) (st : List Value) (z : Zz) (f : Fm) (E : Ej) (R : Kr) : Prop := xpush (.int (nI 1)) (q_L_law_308 V) ls st z f E R
def q_L_law_305 (V : Nat → Nat) (ls : Ls) (st : List Value) (z : Zz) (f : Fm) (E : Ej) (R : Kr) : Prop := xiload 7 (q_L_law_307 V) ls st z f E R
def q_L_law_304 (V : Nat → Nat) (ls : Ls) (st : List Value) (z : Zz) (f : Fm) (E : Ej) (R : Kr) : Prop := xdiv (fun x y => x - x / y * y) (q_L_law_305 V) ls st z f E R
def q_L_law_303 (V : Nat → Nat) (ls : Ls) (st : List Value) (z : Zz) (f : Fm) (E : Ej) (R : Kr) : Prop := xpush (.int (nI 4)) (q_L_law_304 V) ls st z f E R
def q_L_law_301 (V : Nat → Nat) (ls : Ls) (st : List Value) (z : Zz) (f : Fm) (E : Ej) (R : Kr) : Prop := xiload 7 (q_L_law_303 V) ls st z f E R
def q_L_law_300 (V : Nat → Nat) (ls : Ls) (st : List Value) (z : Zz) (f : Fm) (E : Ej) (R : Kr) : Prop := xaload 1 (q_L_law_301 V) ls st z f E R
def q_L_law_299 (V : Nat → Nat) (ls : Ls) (st : List Value) (z : Zz) (f : Fm) (E : Ej) (R : Kr) : Prop := xpop (q_L_law_300 V) ls st z f E R
def q_L_law_296 (V : Nat → Nat) (ls : Ls) (st : List Value) (z : Zz) (f : Fm) (E : Ej) (R : Kr) : Prop := xcall 2 12 Sp_X12_day 0 0 (q_L_law_299 V) ls st z f E R
def q_L_law_295 (V : Nat → Nat) (ls : Ls) (st : List Value) (z : Zz) (f : Fm) (E : Ej) (R : Kr) : Prop := xpush (.int (nI 1)) (q_L_law_296 V) ls st z f E R
def q_L_law_294 (V : Nat → Nat) (ls : Ls) (st : List Value) (z : Zz) (f : Fm) (E : Ej) (R : Kr) : Prop := xaload 1 (q_L_law_295 V) ls st z f E R
def q_L_law_293 (V : Nat → Nat) (ls : Ls) (st : List Value) (z : Zz) (f : Fm) (E : Ej) (R : Kr) : Prop := xpop (q_L_law_294 V) ls st z f E R
def q_L_law_290 (V : Nat → Nat) (ls : Ls) (st : List Value) (z : Zz) (f : Fm) (E : Ej) (R : Kr) : Prop := xcall 3 12 Sp_X12_letter 0 0 (q_L_law_293 V) ls st z f E R
def q_L_law_289 (V : Nat → Nat) (ls : Ls) (st : List Value) (z : Zz) (f : Fm) (E : Ej) (R : Kr) : Prop := xpush (.int (nI 3)) (q_L_law_290 V) ls st z f E R
def q_L_law_288 (V : Nat → Nat) (ls : Ls) (st : List Value) (z : Zz) (f : Fm) (E : Ej) (R : Kr) : Prop := xdiv (fun x y => x - x / y * y) (q_L_law_289 V) ls st z f E R
def q_L_law_287 (V : Nat → Nat) (ls : Ls) (st : List Value) (z : Zz) (f : Fm) (E : Ej) (R : Kr) : Prop := xpush (.int (nI 3)) (q_L_law_288 V) ls st z f E R
def q_L_law_285 (V : Nat → Nat) (ls : Ls) (st : List Value) (z : Zz) (f : Fm) (E : Ej) (R : Kr) : Prop := xiload 7 (q_L_law_287 V) ls st z f E R
def q_L_law_284 (V : Nat → Nat) (ls : Ls) (st : List Value) (z : Zz) (f : Fm) (E : Ej) (R : Kr) : Prop := xaload 1 (q_L_law_285 V) ls st z f E R
def q_L_law_283 (V : Nat → Nat) (ls : Ls) (st : List Value) (z : Zz) (f : Fm) (E : Ej) (R : Kr) : Prop := xpop (q_L_law_284 V) ls st z f E R
def q_L_law_280 (V : Nat → Nat) (ls : Ls) (st : List Value) (z : Zz) (f : Fm) (E : Ej) (R : Kr) : Prop := xcall 4 12 Sp_X12_road 0 0 (q_L_law_283 V) ls st z f E R
def q_L_law_279 (V : Nat → Nat) (ls : Ls) (st : List Value) (z : Zz) (f : Fm) (E : Ej) (R : Kr) : Prop := xbin (fun x y => x + y) (q_L_law_280 V) ls st z f E R
def q_L_law_277 (V : Nat → Nat) (ls : Ls) (st : List Value) (z : Zz) (f : Fm) (E : Ej) (R : Kr) : Prop := xiload 7 (q_L_law_279 V) ls st z f E R
def q_L_law_276 (V : Nat → Nat) (ls : Ls) (st : List Value) (z : Zz) (f : Fm) (E : Ej) (R : Kr) : Prop := xpush (.int (nI 1)) (q_L_law_277 V) ls st z f E R
def q_L_law_275 (V : Nat → Nat) (ls : Ls) (st : List Value) (z : Zz) (f : Fm) (E : Ej) (R : Kr) : Prop := xdiv (fun x y => x - x / y * y) (q_L_law_276 V) ls st z f E R
def q_L_law_274 (V : Nat → Nat) (ls : Ls) (st : List Value) (z : Zz) (f : Fm) (E : Ej) (R : Kr) : Prop := xpush (.int (nI 4)) (q_L_law_275 V) ls st z f E R
def q_L_law_273 (V : Nat → Nat) (ls : Ls) (st : List Value) (z : Zz) (f : Fm) (E : Ej) (R : Kr) : Prop := xbin (fun x y => x + y) (q_L_law_274 V) ls st z f E R
def q_L_law_272 (V : Nat → Nat) (ls : Ls) (st : List Value) (z : Zz) (f : Fm) (E : Ej) (R : Kr) : Prop := xdiv (fun x y => x / y) (q_L_law_273 V) ls st z f E R
def q_L_law_271 (V : Nat → Nat) (ls : Ls) (st : List Value) (z : Zz) (f : Fm) (E : Ej) (R : Kr) : Prop := xpush (.int (nI 4)) (q_L_law_272 V) ls st z f E R
def q_L_law_269 (V : Nat → Nat) (ls : Ls) (st : List Value) (z : Zz) (f : Fm) (E : Ej) (R : Kr) : Prop := xiload 7 (q_L_law_271 V) ls st z f E R
def q_L_law_268 (V : Nat → Nat) (ls : Ls) (st : List Value) (z : Zz) (f : Fm) (E : Ej) (R : Kr) : Prop := xbin (fun x y => x + y) (q_L_law_269 V) ls st z f E R
def q_L_law_267 (V : Nat → Nat) (ls : Ls) (st : List Value) (z : Zz) (f : Fm) (E : Ej) (R : Kr) : Prop := xpush (.int (nI 1)) (q_L_law_268 V) ls st z f E R
def q_L_law_265 (V : Nat → Nat) (ls : Ls) (st : List Value) (z : Zz) (f : Fm) (E : Ej) (R : Kr) : Prop := xiload 7 (q_L_law_267 V) ls st z f E R
def q_L_law_264 (V : Nat → Nat) (ls : Ls) (st : List Value) (z : Zz) (f : Fm) (E : Ej) (R : Kr) : Prop := xdiv (fun x y => x - x / y * y) (q_L_law_265 V) ls st z f E R
def q_L_law_263 (V : Nat → Nat) (ls : Ls) (st : List Value) (z : Zz) (f : Fm) (E : Ej) (R : Kr) : Prop := xpush (.int (nI 4)) (q_L_law_264 V) ls st z f E R
def q_L_law_261 (V : Nat → Nat) (ls : Ls) (st : List Value) (z : Zz) (f : Fm) (E : Ej) (R : Kr) : Prop := xiload 7 (q_L_law_263 V) ls st z f E R
def q_L_law_260 (V : Nat → Nat) (ls : Ls) (st : List Value) (z : Zz) (f : Fm) (E : Ej) (R : Kr) : Prop := xaload 1 (q_L_law_261 V) ls st z f E R
def q_L_law_257 (V : Nat → Nat) (ls : Ls) (st : List Value) (z : Zz) (f : Fm) (E : Ej) (R : Kr) : Prop := xicmp (fun x y => y ≤ x) (q_L_law_332 V) (q_L_law_260 V) ls st z f E R
def q_L_law_255 (V : Nat → Nat) (ls : Ls) (st : List Value) (z : Zz) (f : Fm) (E : Ej) (R : Kr) : Prop := xpush (.int (nI 8)) (q_L_law_257 V) ls st z f E R
def q_L_law_253 (V : Nat → Nat) (ls : Ls) (st : List Value) (z : Zz) (f : Fm) (E : Ej) (R : Kr) : Prop := xiload 7 (q_L_law_255 V) ls st z f E R
def q_L_law_250 (V : Nat → Nat) (ls : Ls) (st : List Value) (z : Zz) (f : Fm) (E : Ej) (R : Kr) : Prop := xif (fun x => x = 0) (q_L_law_332 V) (q_L_law_253 V) ls st z f E R
def q_L_law_249 (V : Nat → Nat) (ls : Ls) (st : List Value) (z : Zz) (f : Fm) (E : Ej) (R : Kr) : Prop := xiload 3 (q_L_law_250 V) ls st z f E R
def q_L_law_247 (V : Nat → Nat) (ls : Ls) (st : List Value) (z : Zz) (f : Fm) (E : Ej) (R : Kr) : Prop := xistore 7 (xs 249) ls st z f E R
def q_L_law_246 (V : Nat → Nat) (ls : Ls) (st : List Value) (z : Zz) (f : Fm) (E : Ej) (R : Kr) : Prop := xpush (.int (nI 0)) (q_L_law_247 V) ls st z f E R
def q_L_law_240 (V : Nat → Nat) (ls : Ls) (st : List Value) (z : Zz) (f : Fm) (E : Ej) (R : Kr) : Prop := xiinc 7 (nI 1) (xs 157) ls st z f E R
def q_L_law_239 (V : Nat → Nat) (ls : Ls) (st : List Value) (z : Zz) (f : Fm) (E : Ej) (R : Kr) : Prop := xistore 3 (q_L_law_240 V) ls st z f E R
def q_L_law_238 (V : Nat → Nat) (ls : Ls) (st : List Value) (z : Zz) (f : Fm) (E : Ej) (R : Kr) : Prop := xpush (.int (nI 0)) (q_L_law_239 V) ls st z f E R
def q_L_law_234 (V : Nat → Nat) (ls : Ls) (st : List Value) (z : Zz) (f : Fm) (E : Ej) (R : Kr) : Prop := xpush (.int (nI 1)) (q_L_law_239 V) ls st z f E R
def q_L_law_231 (V : Nat → Nat) (ls : Ls) (st : List Value) (z : Zz) (f : Fm) (E : Ej) (R : Kr) : Prop := xif (fun x => ¬ x = 0) (q_L_law_238 V) (q_L_law_234 V) ls st z f E R
def q_L_law_230 (V : Nat → Nat) (ls : Ls) (st : List Value) (z : Zz) (f : Fm) (E : Ej) (R : Kr) : Prop := xlcmp (q_L_law_231 V) ls st z f E R
def q_L_law_228 (V : Nat → Nat) (ls : Ls) (st : List Value) (z : Zz) (f : Fm) (E : Ej) (R : Kr) : Prop := xlload 4 (q_L_law_230 V) ls st z f E R
def q_L_law_225 (V : Nat → Nat) (ls : Ls) (st : List Value) (z : Zz) (f : Fm) (E : Ej) (R : Kr) : Prop := xcall 1 0 (Sp_L_digest V) 0 0 (q_L_law_228 V) ls st z f E R
def q_L_law_224 (V : Nat → Nat) (ls : Ls) (st : List Value) (z : Zz) (f : Fm) (E : Ej) (R : Kr) : Prop := xaload 1 (q_L_law_225 V) ls st z f E R
def q_L_law_221 (V : Nat → Nat) (ls : Ls) (st : List Value) (z : Zz) (f : Fm) (E : Ej) (R : Kr) : Prop := xif (fun x => x < 0) (q_L_law_238 V) (q_L_law_224 V) ls st z f E R
def q_L_law_218 (V : Nat → Nat) (ls : Ls) (st : List Value) (z : Zz) (f : Fm) (E : Ej) (R : Kr) : Prop := xcall 1 12 Sp_X12_undo 0 0 (q_L_law_221 V) ls st z f E R
def q_L_law_217 (V : Nat → Nat) (ls : Ls) (st : List Value) (z : Zz) (f : Fm) (E : Ej) (R : Kr) : Prop := xaload 1 (q_L_law_218 V) ls st z f E R
def q_L_law_214 (V : Nat → Nat) (ls : Ls) (st : List Value) (z : Zz) (f : Fm) (E : Ej) (R : Kr) : Prop := xif (fun x => x = 0) (q_L_law_238 V) (q_L_law_217 V) ls st z f E R
def q_L_law_211 (V : Nat → Nat) (ls : Ls) (st : List Value) (z : Zz) (f : Fm) (E : Ej) (R : Kr) : Prop := xcall 1 0 (Sp_L_isFit V) 1377 96323 (q_L_law_214 V) ls st z f E R
def q_L_law_210 (V : Nat → Nat) (ls : Ls) (st : List Value) (z : Zz) (f : Fm) (E : Ej) (R : Kr) : Prop := xaload 1 (q_L_law_211 V) ls st z f E R
def q_L_law_204 (V : Nat → Nat) (ls : Ls) (st : List Value) (z : Zz) (f : Fm) (E : Ej) (R : Kr) : Prop := xicmp (fun x y => ¬ x = y) (q_L_law_238 V) (q_L_law_224 V) ls st z f E R
def q_L_law_202 (V : Nat → Nat) (ls : Ls) (st : List Value) (z : Zz) (f : Fm) (E : Ej) (R : Kr) : Prop := xpush (.int (nI 7)) (q_L_law_204 V) ls st z f E R
def q_L_law_199 (V : Nat → Nat) (ls : Ls) (st : List Value) (z : Zz) (f : Fm) (E : Ej) (R : Kr) : Prop := xcall 2 12 Sp_X12_reason 0 0 (q_L_law_202 V) ls st z f E R
def q_L_law_198 (V : Nat → Nat) (ls : Ls) (st : List Value) (z : Zz) (f : Fm) (E : Ej) (R : Kr) : Prop := xpush (.int (nI 0)) (q_L_law_199 V) ls st z f E R
def q_L_law_197 (V : Nat → Nat) (ls : Ls) (st : List Value) (z : Zz) (f : Fm) (E : Ej) (R : Kr) : Prop := xaload 1 (q_L_law_198 V) ls st z f E R
def q_L_law_194 (V : Nat → Nat) (ls : Ls) (st : List Value) (z : Zz) (f : Fm) (E : Ej) (R : Kr) : Prop := xicmp (fun x y => ¬ x = y) (q_L_law_238 V) (q_L_law_197 V) ls st z f E R
def q_L_law_192 (V : Nat → Nat) (ls : Ls) (st : List Value) (z : Zz) (f : Fm) (E : Ej) (R : Kr) : Prop := xpush (.int (-14)) (q_L_law_194 V) ls st z f E R
def q_L_law_190 (V : Nat → Nat) (ls : Ls) (st : List Value) (z : Zz) (f : Fm) (E : Ej) (R : Kr) : Prop := xiload 8 (q_L_law_192 V) ls st z f E R
def q_L_law_187 (V : Nat → Nat) (ls : Ls) (st : List Value) (z : Zz) (f : Fm) (E : Ej) (R : Kr) : Prop := xif (fun x => 0 ≤ x) (q_L_law_210 V) (q_L_law_190 V) ls st z f E R
def q_L_law_185 (V : Nat → Nat) (ls : Ls) (st : List Value) (z : Zz) (f : Fm) (E : Ej) (R : Kr) : Prop := xiload 8 (q_L_law_187 V) ls st z f E R
def q_L_law_183 (V : Nat → Nat) (ls : Ls) (st : List Value) (z : Zz) (f : Fm) (E : Ej) (R : Kr) : Prop := xistore 8 (q_L_law_185 V) ls st z f E R
def q_L_law_180 (V : Nat → Nat) (ls : Ls) (st : List Value) (z : Zz) (f : Fm) (E : Ej) (R : Kr) : Prop := xcall 1 12 (Sp_X12_run V) 1 70 (q_L_law_183 V) ls st z f E R
def q_L_law_177 (V : Nat → Nat) (ls : Ls) (st : List Value) (z : Zz) (f : Fm) (E : Ej) (R : Kr) : Prop := xcall 2 0 (Sp_L_write V) 22 1540 (q_L_law_180 V) ls st z f E R
def q_L_law_176 (V : Nat → Nat) (ls : Ls) (st : List Value) (z : Zz) (f : Fm) (E : Ej) (R : Kr) : Prop := xald 6 6 (q_L_law_177 V) ls st z f E R
def q_L_law_174 (V : Nat → Nat) (ls : Ls) (st : List Value) (z : Zz) (f : Fm) (E : Ej) (R : Kr) : Prop := xiload 7 (q_L_law_176 V) ls st z f E R
def q_L_law_171 (V : Nat → Nat) (ls : Ls) (st : List Value) (z : Zz) (f : Fm) (E : Ej) (R : Kr) : Prop := xpush (.ref (V 5)) (q_L_law_174 V) ls st z f E R
def q_L_law_170 (V : Nat → Nat) (ls : Ls) (st : List Value) (z : Zz) (f : Fm) (E : Ej) (R : Kr) : Prop := xaload 1 (q_L_law_171 V) ls st z f E R
def q_L_law_167 (V : Nat → Nat) (ls : Ls) (st : List Value) (z : Zz) (f : Fm) (E : Ej) (R : Kr) : Prop := xicmp (fun x y => y ≤ x) (q_L_law_246 V) (q_L_law_170 V) ls st z f E R
def q_L_law_166 (V : Nat → Nat) (ls : Ls) (st : List Value) (z : Zz) (f : Fm) (E : Ej) (R : Kr) : Prop := xalen (q_L_law_167 V) ls st z f E R
def q_L_law_163 (V : Nat → Nat) (ls : Ls) (st : List Value) (z : Zz) (f : Fm) (E : Ej) (R : Kr) : Prop := xpush (.ref (V 5)) (q_L_law_166 V) ls st z f E R
def q_L_law_161 (V : Nat → Nat) (ls : Ls) (st : List Value) (z : Zz) (f : Fm) (E : Ej) (R : Kr) : Prop := xiload 7 (q_L_law_163 V) ls st z f E R
def q_L_law_158 (V : Nat → Nat) (ls : Ls) (st : List Value) (z : Zz) (f : Fm) (E : Ej) (R : Kr) : Prop := xif (fun x => x = 0) (q_L_law_246 V) (q_L_law_161 V) ls st z f E R
def q_L_law_157 (V : Nat → Nat) (ls : Ls) (st : List Value) (z : Zz) (f : Fm) (E : Ej) (R : Kr) : Prop := xiload 3 (q_L_law_158 V) ls st z f E R
def q_L_law_155 (V : Nat → Nat) (ls : Ls) (st : List Value) (z : Zz) (f : Fm) (E : Ej) (R : Kr) : Prop := xistore 7 (xs 157) ls st z f E R
def q_L_law_154 (V : Nat → Nat) (ls : Ls) (st : List Value) (z : Zz) (f : Fm) (E : Ej) (R : Kr) : Prop := xpush (.int (nI 0)) (q_L_law_155 V) ls st z f E R
def q_L_law_153 (V : Nat → Nat) (ls : Ls) (st : List Value) (z : Zz) (f : Fm) (E : Ej) (R : Kr) : Prop := xistore 3 (q_L_law_154 V) ls st z f E R
def q_L_law_152 (V : Nat → Nat) (ls : Ls) (st : List Value) (z : Zz) (f : Fm) (E : Ej) (R : Kr) : Prop := xpush (.int (nI 0)) (q_L_law_153 V) ls st z f E R
def q_L_law_148 (V : Nat → Nat) (ls : Ls) (st : List Value) (z : Zz) (f : Fm) (E : Ej) (R : Kr) : Prop := xpush (.int (nI 1)) (q_L_law_153 V) ls st z f E R
def q_L_law_145 (V : Nat → Nat) (ls : Ls) (st : List Value) (z : Zz) (f : Fm) (E : Ej) (R : Kr) : Prop := xif (fun x => x = 0) (q_L_law_152 V) (q_L_law_148 V) ls st z f E R
def q_L_law_142 (V : Nat → Nat) (ls : Ls) (st : List Value) (z : Zz) (f : Fm) (E : Ej) (R : Kr) : Prop := xcall 1 0 (Sp_L_isSettled V) 0 0 (q_L_law_145 V) ls st z f E R
def q_L_law_141 (V : Nat → Nat) (ls : Ls) (st : List Value) (z : Zz) (f : Fm) (E : Ej) (R : Kr) : Prop := xaload 1 (q_L_law_142 V) ls st z f E R
def q_L_law_138 (V : Nat → Nat) (ls : Ls) (st : List Value) (z : Zz) (f : Fm) (E : Ej) (R : Kr) : Prop := xif (fun x => x = 0) (q_L_law_152 V) (q_L_law_141 V) ls st z f E R
def q_L_law_137 (V : Nat → Nat) (ls : Ls) (st : List Value) (z : Zz) (f : Fm) (E : Ej) (R : Kr) : Prop := xiload 3 (q_L_law_138 V) ls st z f E R
def q_L_law_135 (V : Nat → Nat) (ls : Ls) (st : List Value) (z : Zz) (f : Fm) (E : Ej) (R : Kr) : Prop := xistore 6 (q_L_law_137 V) ls st z f E R
def q_L_law_132 (V : Nat → Nat) (ls : Ls) (st : List Value) (z : Zz) (f : Fm) (E : Ej) (R : Kr) : Prop := xcall 1 12 Sp_X12_save 0 0 (q_L_law_135 V) ls st z f E R
def q_L_law_131 (V : Nat → Nat) (ls : Ls) (st : List Value) (z : Zz) (f : Fm) (E : Ej) (R : Kr) : Prop := xaload 1 (q_L_law_132 V) ls st z f E R
def q_L_law_129 (V : Nat → Nat) (ls : Ls) (st : List Value) (z : Zz) (f : Fm) (E : Ej) (R : Kr) : Prop := xlstore 4 (q_L_law_131 V) ls st z f E R
def q_L_law_126 (V : Nat → Nat) (ls : Ls) (st : List Value) (z : Zz) (f : Fm) (E : Ej) (R : Kr) : Prop := xcall 1 0 (Sp_L_digest V) 0 0 (q_L_law_129 V) ls st z f E R
def q_L_law_125 (V : Nat → Nat) (ls : Ls) (st : List Value) (z : Zz) (f : Fm) (E : Ej) (R : Kr) : Prop := xaload 1 (q_L_law_126 V) ls st z f E R
def q_L_law_124 (V : Nat → Nat) (ls : Ls) (st : List Value) (z : Zz) (f : Fm) (E : Ej) (R : Kr) : Prop := xpop (q_L_law_125 V) ls st z f E R
def q_L_law_121 (V : Nat → Nat) (ls : Ls) (st : List Value) (z : Zz) (f : Fm) (E : Ej) (R : Kr) : Prop := xcall 1 12 (Sp_X12_run V) 1 70 (q_L_law_124 V) ls st z f E R
def q_L_law_120 (V : Nat → Nat) (ls : Ls) (st : List Value) (z : Zz) (f : Fm) (E : Ej) (R : Kr) : Prop := xaload 1 (q_L_law_121 V) ls st z f E R
def q_L_law_119 (V : Nat → Nat) (ls : Ls) (st : List Value) (z : Zz) (f : Fm) (E : Ej) (R : Kr) : Prop := xistore 3 (q_L_law_120 V) ls st z f E R
def q_L_law_116 (V : Nat → Nat) (ls : Ls) (st : List Value) (z : Zz) (f : Fm) (E : Ej) (R : Kr) : Prop := xcall 1 0 (Sp_L_isFit V) 1377 96323 (q_L_law_119 V) ls st z f E R
def q_L_law_115 (V : Nat → Nat) (ls : Ls) (st : List Value) (z : Zz) (f : Fm) (E : Ej) (R : Kr) : Prop := xaload 1 (q_L_law_116 V) ls st z f E R
def q_L_law_109 (V : Nat → Nat) (ls : Ls) (st : List Value) (z : Zz) (f : Fm) (E : Ej) (R : Kr) : Prop := xiinc 3 (nI 1) (xs 74) ls st z f E R
def q_L_law_108 (V : Nat → Nat) (ls : Ls) (st : List Value) (z : Zz) (f : Fm) (E : Ej) (R : Kr) : Prop := xret .boolean ls st z f E R
def q_L_law_107 (V : Nat → Nat) (ls : Ls) (st : List Value) (z : Zz) (f : Fm) (E : Ej) (R : Kr) : Prop := xpush (.int (nI 0)) (q_L_law_108 V) ls st z f E R
def q_L_law_104 (V : Nat → Nat) (ls : Ls) (st : List Value) (z : Zz) (f : Fm) (E : Ej) (R : Kr) : Prop := xif (fun x => x = 0) (q_L_law_109 V) (q_L_law_107 V) ls st z f E R
def q_L_law_103 (V : Nat → Nat) (ls : Ls) (st : List Value) (z : Zz) (f : Fm) (E : Ej) (R : Kr) : Prop := xlcmp (q_L_law_104 V) ls st z f E R
def q_L_law_101 (V : Nat → Nat) (ls : Ls) (st : List Value) (z : Zz) (f : Fm) (E : Ej) (R : Kr) : Prop := xlload 4 (q_L_law_103 V) ls st z f E R
def q_L_law_98 (V : Nat → Nat) (ls : Ls) (st : List Value) (z : Zz) (f : Fm) (E : Ej) (R : Kr) : Prop := xcall 1 0 (Sp_L_digest V) 0 0 (q_L_law_101 V) ls st z f E R
def q_L_law_97 (V : Nat → Nat) (ls : Ls) (st : List Value) (z : Zz) (f : Fm) (E : Ej) (R : Kr) : Prop := xaload 1 (q_L_law_98 V) ls st z f E R
def q_L_law_94 (V : Nat → Nat) (ls : Ls) (st : List Value) (z : Zz) (f : Fm) (E : Ej) (R : Kr) : Prop := xif (fun x => 0 ≤ x) (q_L_law_109 V) (q_L_law_97 V) ls st z f E R
def q_L_law_91 (V : Nat → Nat) (ls : Ls) (st : List Value) (z : Zz) (f : Fm) (E : Ej) (R : Kr) : Prop := xcall 2 0 (Sp_L_act V) 23 1610 (q_L_law_94 V) ls st z f E R
def q_L_law_88 (V : Nat → Nat) (ls : Ls) (st : List Value) (z : Zz) (f : Fm) (E : Ej) (R : Kr) : Prop := xcall 2 0 Sp_L_cell 0 0 (q_L_law_91 V) ls st z f E R
def q_L_law_87 (V : Nat → Nat) (ls : Ls) (st : List Value) (z : Zz) (f : Fm) (E : Ej) (R : Kr) : Prop := xiload 3 (q_L_law_88 V) ls st z f E R
def q_L_law_86 (V : Nat → Nat) (ls : Ls) (st : List Value) (z : Zz) (f : Fm) (E : Ej) (R : Kr) : Prop := xaload 0 (q_L_law_87 V) ls st z f E R
def q_L_law_85 (V : Nat → Nat) (ls : Ls) (st : List Value) (z : Zz) (f : Fm) (E : Ej) (R : Kr) : Prop := xaload 1 (q_L_law_86 V) ls st z f E R
def q_L_law_83 (V : Nat → Nat) (ls : Ls) (st : List Value) (z : Zz) (f : Fm) (E : Ej) (R : Kr) : Prop := xlstore 4 (q_L_law_85 V) ls st z f E R
def q_L_law_80 (V : Nat → Nat) (ls : Ls) (st : List Value) (z : Zz) (f : Fm) (E : Ej) (R : Kr) : Prop := xcall 1 0 (Sp_L_digest V) 0 0 (q_L_law_83 V) ls st z f E R
def q_L_law_79 (V : Nat → Nat) (ls : Ls) (st : List Value) (z : Zz) (f : Fm) (E : Ej) (R : Kr) : Prop := xaload 1 (q_L_law_80 V) ls st z f E R
def q_L_law_76 (V : Nat → Nat) (ls : Ls) (st : List Value) (z : Zz) (f : Fm) (E : Ej) (R : Kr) : Prop := xicmp (fun x y => y ≤ x) (q_L_law_115 V) (q_L_law_79 V) ls st z f E R
def q_L_law_75 (V : Nat → Nat) (ls : Ls) (st : List Value) (z : Zz) (f : Fm) (E : Ej) (R : Kr) : Prop := xiload 2 (q_L_law_76 V) ls st z f E R
def q_L_law_74 (V : Nat → Nat) (ls : Ls) (st : List Value) (z : Zz) (f : Fm) (E : Ej) (R : Kr) : Prop := xiload 3 (q_L_law_75 V) ls st z f E R
def q_L_law_73 (V : Nat → Nat) (ls : Ls) (st : List Value) (z : Zz) (f : Fm) (E : Ej) (R : Kr) : Prop := xistore 3 (xs 74) ls st z f E R
def q_L_law_72 (V : Nat → Nat) (ls : Ls) (st : List Value) (z : Zz) (f : Fm) (E : Ej) (R : Kr) : Prop := xpush (.int (nI 0)) (q_L_law_73 V) ls st z f E R
def q_L_law_71 (V : Nat → Nat) (ls : Ls) (st : List Value) (z : Zz) (f : Fm) (E : Ej) (R : Kr) : Prop := xistore 2 (q_L_law_72 V) ls st z f E R
def q_L_law_69 (V : Nat → Nat) (ls : Ls) (st : List Value) (z : Zz) (f : Fm) (E : Ej) (R : Kr) : Prop := xpush (.int (nI 44)) (q_L_law_71 V) ls st z f E R
def q_L_law_65 (V : Nat → Nat) (ls : Ls) (st : List Value) (z : Zz) (f : Fm) (E : Ej) (R : Kr) : Prop := xalen (q_L_law_71 V) ls st z f E R
def q_L_law_64 (V : Nat → Nat) (ls : Ls) (st : List Value) (z : Zz) (f : Fm) (E : Ej) (R : Kr) : Prop := xaload 0 (q_L_law_65 V) ls st z f E R
def q_L_law_61 (V : Nat → Nat) (ls : Ls) (st : List Value) (z : Zz) (f : Fm) (E : Ej) (R : Kr) : Prop := xicmp (fun x y => y ≤ x) (q_L_law_69 V) (q_L_law_64 V) ls st z f E R
def q_L_law_59 (V : Nat → Nat) (ls : Ls) (st : List Value) (z : Zz) (f : Fm) (E : Ej) (R : Kr) : Prop := xpush (.int (nI 44)) (q_L_law_61 V) ls st z f E R
def q_L_law_58 (V : Nat → Nat) (ls : Ls) (st : List Value) (z : Zz) (f : Fm) (E : Ej) (R : Kr) : Prop := xalen (q_L_law_59 V) ls st z f E R
def q_L_law_57 (V : Nat → Nat) (ls : Ls) (st : List Value) (z : Zz) (f : Fm) (E : Ej) (R : Kr) : Prop := xaload 0 (q_L_law_58 V) ls st z f E R
def q_L_law_56 (V : Nat → Nat) (ls : Ls) (st : List Value) (z : Zz) (f : Fm) (E : Ej) (R : Kr) : Prop := xpop (q_L_law_57 V) ls st z f E R
def q_L_law_53 (V : Nat → Nat) (ls : Ls) (st : List Value) (z : Zz) (f : Fm) (E : Ej) (R : Kr) : Prop := xcall 2 12 Sp_X12_day 0 0 (q_L_law_56 V) ls st z f E R
def q_L_law_52 (V : Nat → Nat) (ls : Ls) (st : List Value) (z : Zz) (f : Fm) (E : Ej) (R : Kr) : Prop := xpush (.int (nI 1)) (q_L_law_53 V) ls st z f E R
def q_L_law_51 (V : Nat → Nat) (ls : Ls) (st : List Value) (z : Zz) (f : Fm) (E : Ej) (R : Kr) : Prop := xaload 1 (q_L_law_52 V) ls st z f E R
def q_L_law_50 (V : Nat → Nat) (ls : Ls) (st : List Value) (z : Zz) (f : Fm) (E : Ej) (R : Kr) : Prop := xpop (q_L_law_51 V) ls st z f E R
def q_L_law_47 (V : Nat → Nat) (ls : Ls) (st : List Value) (z : Zz) (f : Fm) (E : Ej) (R : Kr) : Prop := xcall 4 12 Sp_X12_road 0 0 (q_L_law_50 V) ls st z f E R
def q_L_law_45 (V : Nat → Nat) (ls : Ls) (st : List Value) (z : Zz) (f : Fm) (E : Ej) (R : Kr) : Prop := xpush (.int (nI 7)) (q_L_law_47 V) ls st z f E R
def q_L_law_44 (V : Nat → Nat) (ls : Ls) (st : List Value) (z : Zz) (f : Fm) (E : Ej) (R : Kr) : Prop := xpush (.int (nI 3)) (q_L_law_45 V) ls st z f E R
def q_L_law_43 (V : Nat → Nat) (ls : Ls) (st : List Value) (z : Zz) (f : Fm) (E : Ej) (R : Kr) : Prop := xpush (.int (nI 2)) (q_L_law_44 V) ls st z f E R
def q_L_law_42 (V : Nat → Nat) (ls : Ls) (st : List Value) (z : Zz) (f : Fm) (E : Ej) (R : Kr) : Prop := xaload 1 (q_L_law_43 V) ls st z f E R
def q_L_law_41 (V : Nat → Nat) (ls : Ls) (st : List Value) (z : Zz) (f : Fm) (E : Ej) (R : Kr) : Prop := xpop (q_L_law_42 V) ls st z f E R
def q_L_law_38 (V : Nat → Nat) (ls : Ls) (st : List Value) (z : Zz) (f : Fm) (E : Ej) (R : Kr) : Prop := xcall 4 12 Sp_X12_road 0 0 (q_L_law_41 V) ls st z f E R
def q_L_law_37 (V : Nat → Nat) (ls : Ls) (st : List Value) (z : Zz) (f : Fm) (E : Ej) (R : Kr) : Prop := xpush (.int (nI 3)) (q_L_law_38 V) ls st z f E R
def q_L_law_36 (V : Nat → Nat) (ls : Ls) (st : List Value) (z : Zz) (f : Fm) (E : Ej) (R : Kr) : Prop := xpush (.int (nI 2)) (q_L_law_37 V) ls st z f E R
def q_L_law_35 (V : Nat → Nat) (ls : Ls) (st : List Value) (z : Zz) (f : Fm) (E : Ej) (R : Kr) : Prop := xpush (.int (nI 1)) (q_L_law_36 V) ls st z f E R
def q_L_law_34 (V : Nat → Nat) (ls : Ls) (st : List Value) (z : Zz) (f : Fm) (E : Ej) (R : Kr) : Prop := xaload 1 (q_L_law_35 V) ls st z f E R
def q_L_law_33 (V : Nat → Nat) (ls : Ls) (st : List Value) (z : Zz) (f : Fm) (E : Ej) (R : Kr) : Prop := xpop (q_L_law_34 V) ls st z f E R
def q_L_law_30 (V : Nat → Nat) (ls : Ls) (st : List Value) (z : Zz) (f : Fm) (E : Ej) (R : Kr) : Prop := xcall 4 12 Sp_X12_road 0 0 (q_L_law_33 V) ls st z f E R
def q_L_law_29 (V : Nat → Nat) (ls : Ls) (st : List Value) (z : Zz) (f : Fm) (E : Ej) (R : Kr) : Prop := xpush (.int (nI 4)) (q_L_law_30 V) ls st z f E R
def q_L_law_28 (V : Nat → Nat) (ls : Ls) (st : List Value) (z : Zz) (f : Fm) (E : Ej) (R : Kr) : Prop := xpush (.int (nI 1)) (q_L_law_29 V) ls st z f E R
def q_L_law_27 (V : Nat → Nat) (ls : Ls) (st : List Value) (z : Zz) (f : Fm) (E : Ej) (R : Kr) : Prop := xpush (.int (nI 0)) (q_L_law_28 V) ls st z f E R
def q_L_law_26 (V : Nat → Nat) (ls : Ls) (st : List Value) (z : Zz) (f : Fm) (E : Ej) (R : Kr) : Prop := xaload 1 (q_L_law_27 V) ls st z f E R
def q_L_law_20 (V : Nat → Nat) (ls : Ls) (st : List Value) (z : Zz) (f : Fm) (E : Ej) (R : Kr) : Prop := xiinc 2 (nI 1) (xs 10) ls st z f E R
def q_L_law_19 (V : Nat → Nat) (ls : Ls) (st : List Value) (z : Zz) (f : Fm) (E : Ej) (R : Kr) : Prop := xpop (q_L_law_20 V) ls st z f E R
def q_L_law_16 (V : Nat → Nat) (ls : Ls) (st : List Value) (z : Zz) (f : Fm) (E : Ej) (R : Kr) : Prop := xcall 1 12 Sp_X12_fort 0 0 (q_L_law_19 V) ls st z f E R
def q_L_law_15 (V : Nat → Nat) (ls : Ls) (st : List Value) (z : Zz) (f : Fm) (E : Ej) (R : Kr) : Prop := xaload 1 (q_L_law_16 V) ls st z f E R
def q_L_law_12 (V : Nat → Nat) (ls : Ls) (st : List Value) (z : Zz) (f : Fm) (E : Ej) (R : Kr) : Prop := xicmp (fun x y => y ≤ x) (q_L_law_26 V) (q_L_law_15 V) ls st z f E R
def q_L_law_11 (V : Nat → Nat) (ls : Ls) (st : List Value) (z : Zz) (f : Fm) (E : Ej) (R : Kr) : Prop := xpush (.int (nI 4)) (q_L_law_12 V) ls st z f E R
def q_L_law_10 (V : Nat → Nat) (ls : Ls) (st : List Value) (z : Zz) (f : Fm) (E : Ej) (R : Kr) : Prop := xiload 2 (q_L_law_11 V) ls st z f E R
def q_L_law_9 (V : Nat → Nat) (ls : Ls) (st : List Value) (z : Zz) (f : Fm) (E : Ej) (R : Kr) : Prop := xistore 2 (xs 10) ls st z f E R
def q_L_law_8 (V : Nat → Nat) (ls : Ls) (st : List Value) (z : Zz) (f : Fm) (E : Ej) (R : Kr) : Prop := xpush (.int (nI 0)) (q_L_law_9 V) ls st z f E R
def q_L_law_7 (V : Nat → Nat) (ls : Ls) (st : List Value) (z : Zz) (f : Fm) (E : Ej) (R : Kr) : Prop := xastore 1 (q_L_law_8 V) ls st z f E R
def q_L_law_4 (V : Nat → Nat) (ls : Ls) (st : List Value) (z : Zz) (f : Fm) (E : Ej) (R : Kr) : Prop := xcall 1 12 (Sp_X12_init V) 713 5685 (q_L_law_7 V) ls st z f E R
def q_L_law_3 (V : Nat → Nat) (ls : Ls) (st : List Value) (z : Zz) (f : Fm) (E : Ej) (R : Kr) : Prop := xdup (q_L_law_4 V) ls st z f E R
def q_L_law_0 (V : Nat → Nat) (ls : Ls) (st : List Value) (z : Zz) (f : Fm) (E : Ej) (R : Kr) : Prop := xnew 11 11 [.null, .null, .null, .null, .null, .null, .null, .null, .null, .null, .int 0] (q_L_law_3 V) ls st z f E R
set_option maxRecDepth 100000 in
theorem t_L_law {s0 : State} {D : va_G} {ids : Nat → ClassId} {V : Nat → Nat} {l : Launch} {K : Kr} {E : Ej} (G : GG s0 D ids V) (X : EnX s0 D ids l RL cL_law 9 (some .boolean) "law" rm_L_law K E) : Sd E K 0 (q_L_law_0 V) ∧ Sd E K 10 (q_L_law_10 V) ∧ Sd E K 74 (q_L_law_74 V) ∧ Sd E K 157 (q_L_law_157 V) ∧ Sd E K 249 (q_L_law_249 V) := by
  have h369 : Sd E K 369 (q_L_law_369 V) := sd_ret X (by decide +kernel : decode cL_law 369 = .ok (.ireturn, 1))
  have h368 : Sd E K 368 (q_L_law_368 V) := sd_iconst X (by decide +kernel : decode cL_law 368 = .ok (.iconst 0, 1)) (by decide +kernel) h369
  have h365 : Sd E K 365 (q_L_law_369 V) := sd_goto X (by decide +kernel : decode cL_law 365 = .ok (.goto 4, 3)) (by decide) h369
  have h364 : Sd E K 364 (q_L_law_364 V) := sd_iconst X (by decide +kernel : decode cL_law 364 = .ok (.iconst 1, 1)) (by decide +kernel) h365
  have h361 : Sd E K 361 (q_L_law_361 V) := sd_icmp_ne X (by decide +kernel : decode cL_law 361 = .ok (.if_icmp .ne 7, 3)) (by decide) h368 h364
  have h359 : Sd E K 359 (q_L_law_359 V) := sd_bipush X (by decide +kernel : decode cL_law 359 = .ok (.bipush (-15), 2)) (by decide +kernel) h361
  have h356 : Sd E K 356 (q_L_law_356 V) := sd_callV (n := 0) (ci := 11) X (ct_X12_undo G) (by decide +kernel : decode cL_law 356 = .ok (.invokevirtual 75, 3)) wd_805 wd_802 wd_803 wd_804 wd_24 (by decide +kernel) (Or.inl ⟨by decide, _, _, rfl⟩) ⟨Nat.le_of_ble_eq_true rfl, Nat.le_of_ble_eq_true rfl⟩ h359
  have h355 : Sd E K 355 (q_L_law_355 V) := sd_aload_n X (by decide +kernel : decode cL_law 355 = .ok (.aload_n 1, 1)) rfl h356
  have h352 : Sd E K 352 (q_L_law_352 V) := sd_if_ne X (by decide +kernel : decode cL_law 352 = .ok (.ifCond .ne 16, 3)) (by decide) h368 h355
  have h351 : Sd E K 351 (q_L_law_351 V) := sd_lcmp X (by decide +kernel : decode cL_law 351 = .ok (.lcmp, 1)) h352
  have h349 : Sd E K 349 (q_L_law_349 V) := sd_lload X (by decide +kernel : decode cL_law 349 = .ok (.lload 4, 2)) h351
  have h346 : Sd E K 346 (q_L_law_346 V) := sd_callS (n := 1) X (ct_L_digest G) (by decide +kernel : decode cL_law 346 = .ok (.invokestatic 153, 3)) wd_895 wd_893 wd_894 wd_23 (by decide +kernel) ⟨Nat.le_of_ble_eq_true rfl, Nat.le_of_ble_eq_true rfl⟩ h349
  have h345 : Sd E K 345 (q_L_law_345 V) := sd_aload_n X (by decide +kernel : decode cL_law 345 = .ok (.aload_n 1, 1)) rfl h346
  have h342 : Sd E K 342 (q_L_law_342 V) := sd_icmp_ne X (by decide +kernel : decode cL_law 342 = .ok (.if_icmp .ne 26, 3)) (by decide) h368 h345
  have h340 : Sd E K 340 (q_L_law_340 V) := sd_iload X (by decide +kernel : decode cL_law 340 = .ok (.iload 6, 2)) h342
  have h337 : Sd E K 337 (q_L_law_337 V) := sd_callV (n := 0) (ci := 11) X (ct_X12_restore G) (by decide +kernel : decode cL_law 337 = .ok (.invokevirtual 72, 3)) wd_818 wd_815 wd_816 wd_817 wd_24 (by decide +kernel) (Or.inl ⟨by decide, _, _, rfl⟩) ⟨Nat.le_of_ble_eq_true rfl, Nat.le_of_ble_eq_true rfl⟩ h340
  have h336 : Sd E K 336 (q_L_law_336 V) := sd_aload_n X (by decide +kernel : decode cL_law 336 = .ok (.aload_n 1, 1)) rfl h337
  have h333 : Sd E K 333 (q_L_law_333 V) := sd_if_eq X (by decide +kernel : decode cL_law 333 = .ok (.ifCond .eq 35, 3)) (by decide) h368 h336
  have h332 : Sd E K 332 (q_L_law_332 V) := sd_iload_n X (by decide +kernel : decode cL_law 332 = .ok (.iload_n 3, 1)) rfl h333
  have h329 : Sd E K 329 (xs 249) := sd_goto X (by decide +kernel : decode cL_law 329 = .ok (.goto (-80), 3)) (by decide) (sd_s 249)
  have h326 : Sd E K 326 (q_L_law_326 V) := sd_iinc X (by decide +kernel : decode cL_law 326 = .ok (.iinc 7 1, 3)) (by decide +kernel) h329
  have h325 : Sd E K 325 (q_L_law_325 V) := sd_istore_n X (by decide +kernel : decode cL_law 325 = .ok (.istore_n 3, 1)) rfl h326
  have h322 : Sd E K 322 (q_L_law_322 V) := sd_callS (n := 1) X (ct_L_isFit G) (by decide +kernel : decode cL_law 322 = .ok (.invokestatic 169, 3)) wd_961 wd_959 wd_960 wd_23 (by decide +kernel) ⟨Nat.le_of_ble_eq_true rfl, Nat.le_of_ble_eq_true rfl⟩ h325
  have h321 : Sd E K 321 (q_L_law_321 V) := sd_aload_n X (by decide +kernel : decode cL_law 321 = .ok (.aload_n 1, 1)) rfl h322
  have h320 : Sd E K 320 (q_L_law_320 V) := sd_pop X (by decide +kernel : decode cL_law 320 = .ok (.pop, 1)) h321
  have h317 : Sd E K 317 (q_L_law_317 V) := sd_callV (n := 1) (ci := 11) X (ct_X12_day G) (by decide +kernel : decode cL_law 317 = .ok (.invokevirtual 48, 3)) wd_526 wd_523 wd_524 wd_525 wd_24 (by decide +kernel) (Or.inl ⟨by decide, _, _, rfl⟩) ⟨Nat.le_of_ble_eq_true rfl, Nat.le_of_ble_eq_true rfl⟩ h320
  have h316 : Sd E K 316 (q_L_law_316 V) := sd_iconst X (by decide +kernel : decode cL_law 316 = .ok (.iconst 2, 1)) (by decide +kernel) h317
  have h315 : Sd E K 315 (q_L_law_315 V) := sd_aload_n X (by decide +kernel : decode cL_law 315 = .ok (.aload_n 1, 1)) rfl h316
  have h314 : Sd E K 314 (q_L_law_314 V) := sd_pop X (by decide +kernel : decode cL_law 314 = .ok (.pop, 1)) h315
  have h311 : Sd E K 311 (q_L_law_311 V) := sd_callV (n := 2) (ci := 11) X (ct_X12_cut G) (by decide +kernel : decode cL_law 311 = .ok (.invokevirtual 31, 3)) wd_502 wd_499 wd_500 wd_501 wd_24 (by decide +kernel) (Or.inl ⟨by decide, _, _, rfl⟩) ⟨Nat.le_of_ble_eq_true rfl, Nat.le_of_ble_eq_true rfl⟩ h314
  have h310 : Sd E K 310 (q_L_law_310 V) := sd_irem X (by decide +kernel : decode cL_law 310 = .ok (.irem, 1)) h311
  have h309 : Sd E K 309 (q_L_law_309 V) := sd_iconst X (by decide +kernel : decode cL_law 309 = .ok (.iconst 4, 1)) (by decide +kernel) h310
  have h308 : Sd E K 308 (q_L_law_308 V) := sd_iadd X (by decide +kernel : decode cL_law 308 = .ok (.iadd, 1)) h309
  have h307 : Sd E K 307 (q_L_law_307 V) := sd_iconst X (by decide +kernel : decode cL_law 307 = .ok (.iconst 1, 1)) (by decide +kernel) h308
  have h305 : Sd E K 305 (q_L_law_305 V) := sd_iload X (by decide +kernel : decode cL_law 305 = .ok (.iload 7, 2)) h307
  have h304 : Sd E K 304 (q_L_law_304 V) := sd_irem X (by decide +kernel : decode cL_law 304 = .ok (.irem, 1)) h305
  have h303 : Sd E K 303 (q_L_law_303 V) := sd_iconst X (by decide +kernel : decode cL_law 303 = .ok (.iconst 4, 1)) (by decide +kernel) h304
  have h301 : Sd E K 301 (q_L_law_301 V) := sd_iload X (by decide +kernel : decode cL_law 301 = .ok (.iload 7, 2)) h303
  have h300 : Sd E K 300 (q_L_law_300 V) := sd_aload_n X (by decide +kernel : decode cL_law 300 = .ok (.aload_n 1, 1)) rfl h301
  have h299 : Sd E K 299 (q_L_law_299 V) := sd_pop X (by decide +kernel : decode cL_law 299 = .ok (.pop, 1)) h300
  have h296 : Sd E K 296 (q_L_law_296 V) := sd_callV (n := 1) (ci := 11) X (ct_X12_day G) (by decide +kernel : decode cL_law 296 = .ok (.invokevirtual 48, 3)) wd_526 wd_523 wd_524 wd_525 wd_24 (by decide +kernel) (Or.inl ⟨by decide, _, _, rfl⟩) ⟨Nat.le_of_ble_eq_true rfl, Nat.le_of_ble_eq_true rfl⟩ h299
  have h295 : Sd E K 295 (q_L_law_295 V) := sd_iconst X (by decide +kernel : decode cL_law 295 = .ok (.iconst 1, 1)) (by decide +kernel) h296
  have h294 : Sd E K 294 (q_L_law_294 V) := sd_aload_n X (by decide +kernel : decode cL_law 294 = .ok (.aload_n 1, 1)) rfl h295
  have h293 : Sd E K 293 (q_L_law_293 V) := sd_pop X (by decide +kernel : decode cL_law 293 = .ok (.pop, 1)) h294
  have h290 : Sd E K 290 (q_L_law_290 V) := sd_callV (n := 2) (ci := 11) X (ct_X12_letter G) (by decide +kernel : decode cL_law 290 = .ok (.invokevirtual 45, 3)) wd_578 wd_575 wd_576 wd_577 wd_24 (by decide +kernel) (Or.inl ⟨by decide, _, _, rfl⟩) ⟨Nat.le_of_ble_eq_true rfl, Nat.le_of_ble_eq_true rfl⟩ h293
  have h289 : Sd E K 289 (q_L_law_289 V) := sd_iconst X (by decide +kernel : decode cL_law 289 = .ok (.iconst 3, 1)) (by decide +kernel) h290
  have h288 : Sd E K 288 (q_L_law_288 V) := sd_irem X (by decide +kernel : decode cL_law 288 = .ok (.irem, 1)) h289
  have h287 : Sd E K 287 (q_L_law_287 V) := sd_iconst X (by decide +kernel : decode cL_law 287 = .ok (.iconst 3, 1)) (by decide +kernel) h288
  have h285 : Sd E K 285 (q_L_law_285 V) := sd_iload X (by decide +kernel : decode cL_law 285 = .ok (.iload 7, 2)) h287
  have h284 : Sd E K 284 (q_L_law_284 V) := sd_aload_n X (by decide +kernel : decode cL_law 284 = .ok (.aload_n 1, 1)) rfl h285
  have h283 : Sd E K 283 (q_L_law_283 V) := sd_pop X (by decide +kernel : decode cL_law 283 = .ok (.pop, 1)) h284
  have h280 : Sd E K 280 (q_L_law_280 V) := sd_callV (n := 3) (ci := 11) X (ct_X12_road G) (by decide +kernel : decode cL_law 280 = .ok (.invokevirtual 27, 3)) wd_462 wd_459 wd_460 wd_461 wd_24 (by decide +kernel) (Or.inl ⟨by decide, _, _, rfl⟩) ⟨Nat.le_of_ble_eq_true rfl, Nat.le_of_ble_eq_true rfl⟩ h283
  have h279 : Sd E K 279 (q_L_law_279 V) := sd_iadd X (by decide +kernel : decode cL_law 279 = .ok (.iadd, 1)) h280
  have h277 : Sd E K 277 (q_L_law_277 V) := sd_iload X (by decide +kernel : decode cL_law 277 = .ok (.iload 7, 2)) h279
  have h276 : Sd E K 276 (q_L_law_276 V) := sd_iconst X (by decide +kernel : decode cL_law 276 = .ok (.iconst 1, 1)) (by decide +kernel) h277
  have h275 : Sd E K 275 (q_L_law_275 V) := sd_irem X (by decide +kernel : decode cL_law 275 = .ok (.irem, 1)) h276
  have h274 : Sd E K 274 (q_L_law_274 V) := sd_iconst X (by decide +kernel : decode cL_law 274 = .ok (.iconst 4, 1)) (by decide +kernel) h275
  have h273 : Sd E K 273 (q_L_law_273 V) := sd_iadd X (by decide +kernel : decode cL_law 273 = .ok (.iadd, 1)) h274
  have h272 : Sd E K 272 (q_L_law_272 V) := sd_idiv X (by decide +kernel : decode cL_law 272 = .ok (.idiv, 1)) h273
  have h271 : Sd E K 271 (q_L_law_271 V) := sd_iconst X (by decide +kernel : decode cL_law 271 = .ok (.iconst 4, 1)) (by decide +kernel) h272
  have h269 : Sd E K 269 (q_L_law_269 V) := sd_iload X (by decide +kernel : decode cL_law 269 = .ok (.iload 7, 2)) h271
  have h268 : Sd E K 268 (q_L_law_268 V) := sd_iadd X (by decide +kernel : decode cL_law 268 = .ok (.iadd, 1)) h269
  have h267 : Sd E K 267 (q_L_law_267 V) := sd_iconst X (by decide +kernel : decode cL_law 267 = .ok (.iconst 1, 1)) (by decide +kernel) h268
  have h265 : Sd E K 265 (q_L_law_265 V) := sd_iload X (by decide +kernel : decode cL_law 265 = .ok (.iload 7, 2)) h267
  have h264 : Sd E K 264 (q_L_law_264 V) := sd_irem X (by decide +kernel : decode cL_law 264 = .ok (.irem, 1)) h265
  have h263 : Sd E K 263 (q_L_law_263 V) := sd_iconst X (by decide +kernel : decode cL_law 263 = .ok (.iconst 4, 1)) (by decide +kernel) h264
  have h261 : Sd E K 261 (q_L_law_261 V) := sd_iload X (by decide +kernel : decode cL_law 261 = .ok (.iload 7, 2)) h263
  have h260 : Sd E K 260 (q_L_law_260 V) := sd_aload_n X (by decide +kernel : decode cL_law 260 = .ok (.aload_n 1, 1)) rfl h261
  have h257 : Sd E K 257 (q_L_law_257 V) := sd_icmp_ge X (by decide +kernel : decode cL_law 257 = .ok (.if_icmp .ge 75, 3)) (by decide) h332 h260
  have h255 : Sd E K 255 (q_L_law_255 V) := sd_bipush X (by decide +kernel : decode cL_law 255 = .ok (.bipush 8, 2)) (by decide +kernel) h257
  have h253 : Sd E K 253 (q_L_law_253 V) := sd_iload X (by decide +kernel : decode cL_law 253 = .ok (.iload 7, 2)) h255
  have h250 : Sd E K 250 (q_L_law_250 V) := sd_if_eq X (by decide +kernel : decode cL_law 250 = .ok (.ifCond .eq 82, 3)) (by decide) h332 h253
  have h249 : Sd E K 249 (q_L_law_249 V) := sd_iload_n X (by decide +kernel : decode cL_law 249 = .ok (.iload_n 3, 1)) rfl h250
  have h247 : Sd E K 247 (q_L_law_247 V) := sd_istore X (by decide +kernel : decode cL_law 247 = .ok (.istore 7, 2)) (sd_s 249)
  have h246 : Sd E K 246 (q_L_law_246 V) := sd_iconst X (by decide +kernel : decode cL_law 246 = .ok (.iconst 0, 1)) (by decide +kernel) h247
  have h243 : Sd E K 243 (xs 157) := sd_goto X (by decide +kernel : decode cL_law 243 = .ok (.goto (-86), 3)) (by decide) (sd_s 157)
  have h240 : Sd E K 240 (q_L_law_240 V) := sd_iinc X (by decide +kernel : decode cL_law 240 = .ok (.iinc 7 1, 3)) (by decide +kernel) h243
  have h239 : Sd E K 239 (q_L_law_239 V) := sd_istore_n X (by decide +kernel : decode cL_law 239 = .ok (.istore_n 3, 1)) rfl h240
  have h238 : Sd E K 238 (q_L_law_238 V) := sd_iconst X (by decide +kernel : decode cL_law 238 = .ok (.iconst 0, 1)) (by decide +kernel) h239
  have h235 : Sd E K 235 (q_L_law_239 V) := sd_goto X (by decide +kernel : decode cL_law 235 = .ok (.goto 4, 3)) (by decide) h239
  have h234 : Sd E K 234 (q_L_law_234 V) := sd_iconst X (by decide +kernel : decode cL_law 234 = .ok (.iconst 1, 1)) (by decide +kernel) h235
  have h231 : Sd E K 231 (q_L_law_231 V) := sd_if_ne X (by decide +kernel : decode cL_law 231 = .ok (.ifCond .ne 7, 3)) (by decide) h238 h234
  have h230 : Sd E K 230 (q_L_law_230 V) := sd_lcmp X (by decide +kernel : decode cL_law 230 = .ok (.lcmp, 1)) h231
  have h228 : Sd E K 228 (q_L_law_228 V) := sd_lload X (by decide +kernel : decode cL_law 228 = .ok (.lload 4, 2)) h230
  have h225 : Sd E K 225 (q_L_law_225 V) := sd_callS (n := 1) X (ct_L_digest G) (by decide +kernel : decode cL_law 225 = .ok (.invokestatic 153, 3)) wd_895 wd_893 wd_894 wd_23 (by decide +kernel) ⟨Nat.le_of_ble_eq_true rfl, Nat.le_of_ble_eq_true rfl⟩ h228
  have h224 : Sd E K 224 (q_L_law_224 V) := sd_aload_n X (by decide +kernel : decode cL_law 224 = .ok (.aload_n 1, 1)) rfl h225
  have h221 : Sd E K 221 (q_L_law_221 V) := sd_if_lt X (by decide +kernel : decode cL_law 221 = .ok (.ifCond .lt 17, 3)) (by decide) h238 h224
  have h218 : Sd E K 218 (q_L_law_218 V) := sd_callV (n := 0) (ci := 11) X (ct_X12_undo G) (by decide +kernel : decode cL_law 218 = .ok (.invokevirtual 75, 3)) wd_805 wd_802 wd_803 wd_804 wd_24 (by decide +kernel) (Or.inl ⟨by decide, _, _, rfl⟩) ⟨Nat.le_of_ble_eq_true rfl, Nat.le_of_ble_eq_true rfl⟩ h221
  have h217 : Sd E K 217 (q_L_law_217 V) := sd_aload_n X (by decide +kernel : decode cL_law 217 = .ok (.aload_n 1, 1)) rfl h218
  have h214 : Sd E K 214 (q_L_law_214 V) := sd_if_eq X (by decide +kernel : decode cL_law 214 = .ok (.ifCond .eq 24, 3)) (by decide) h238 h217
  have h211 : Sd E K 211 (q_L_law_211 V) := sd_callS (n := 1) X (ct_L_isFit G) (by decide +kernel : decode cL_law 211 = .ok (.invokestatic 169, 3)) wd_961 wd_959 wd_960 wd_23 (by decide +kernel) ⟨Nat.le_of_ble_eq_true rfl, Nat.le_of_ble_eq_true rfl⟩ h214
  have h210 : Sd E K 210 (q_L_law_210 V) := sd_aload_n X (by decide +kernel : decode cL_law 210 = .ok (.aload_n 1, 1)) rfl h211
  have h207 : Sd E K 207 (q_L_law_224 V) := sd_goto X (by decide +kernel : decode cL_law 207 = .ok (.goto 17, 3)) (by decide) h224
  have h204 : Sd E K 204 (q_L_law_204 V) := sd_icmp_ne X (by decide +kernel : decode cL_law 204 = .ok (.if_icmp .ne 34, 3)) (by decide) h238 h207
  have h202 : Sd E K 202 (q_L_law_202 V) := sd_bipush X (by decide +kernel : decode cL_law 202 = .ok (.bipush 7, 2)) (by decide +kernel) h204
  have h199 : Sd E K 199 (q_L_law_199 V) := sd_callV (n := 1) (ci := 11) X (ct_X12_reason G) (by decide +kernel : decode cL_law 199 = .ok (.invokevirtual 117, 3)) wd_801 wd_798 wd_799 wd_800 wd_24 (by decide +kernel) (Or.inl ⟨by decide, _, _, rfl⟩) ⟨Nat.le_of_ble_eq_true rfl, Nat.le_of_ble_eq_true rfl⟩ h202
  have h198 : Sd E K 198 (q_L_law_198 V) := sd_iconst X (by decide +kernel : decode cL_law 198 = .ok (.iconst 0, 1)) (by decide +kernel) h199
  have h197 : Sd E K 197 (q_L_law_197 V) := sd_aload_n X (by decide +kernel : decode cL_law 197 = .ok (.aload_n 1, 1)) rfl h198
  have h194 : Sd E K 194 (q_L_law_194 V) := sd_icmp_ne X (by decide +kernel : decode cL_law 194 = .ok (.if_icmp .ne 44, 3)) (by decide) h238 h197
  have h192 : Sd E K 192 (q_L_law_192 V) := sd_bipush X (by decide +kernel : decode cL_law 192 = .ok (.bipush (-14), 2)) (by decide +kernel) h194
  have h190 : Sd E K 190 (q_L_law_190 V) := sd_iload X (by decide +kernel : decode cL_law 190 = .ok (.iload 8, 2)) h192
  have h187 : Sd E K 187 (q_L_law_187 V) := sd_if_ge X (by decide +kernel : decode cL_law 187 = .ok (.ifCond .ge 23, 3)) (by decide) h210 h190
  have h185 : Sd E K 185 (q_L_law_185 V) := sd_iload X (by decide +kernel : decode cL_law 185 = .ok (.iload 8, 2)) h187
  have h183 : Sd E K 183 (q_L_law_183 V) := sd_istore X (by decide +kernel : decode cL_law 183 = .ok (.istore 8, 2)) h185
  have h180 : Sd E K 180 (q_L_law_180 V) := sd_callV (n := 0) (ci := 11) X (ct_X12_run G) (by decide +kernel : decode cL_law 180 = .ok (.invokevirtual 61, 3)) wd_594 wd_591 wd_592 wd_593 wd_24 (by decide +kernel) (Or.inl ⟨by decide, _, _, rfl⟩) ⟨Nat.le_of_ble_eq_true rfl, Nat.le_of_ble_eq_true rfl⟩ h183
  have h177 : Sd E K 177 (q_L_law_177 V) := sd_callS (n := 2) X (ct_L_write G) (by decide +kernel : decode cL_law 177 = .ok (.invokestatic 57, 3)) wd_829 wd_827 wd_828 wd_23 (by decide +kernel) ⟨Nat.le_of_ble_eq_true rfl, Nat.le_of_ble_eq_true rfl⟩ h180
  have h176 : Sd E K 176 (q_L_law_176 V) := sd_aald X rfl (by decide +kernel : decode cL_law 176 = .ok (.aaload, 1)) h177
  have h174 : Sd E K 174 (q_L_law_174 V) := sd_iload X (by decide +kernel : decode cL_law 174 = .ok (.iload 7, 2)) h176
  have h171 : Sd E K 171 (q_L_law_171 V) := sd_gst X G.z6 (by decide +kernel : decode cL_law 171 = .ok (.getstatic 51, 3)) wd_890 h174
  have h170 : Sd E K 170 (q_L_law_170 V) := sd_aload_n X (by decide +kernel : decode cL_law 170 = .ok (.aload_n 1, 1)) rfl h171
  have h167 : Sd E K 167 (q_L_law_167 V) := sd_icmp_ge X (by decide +kernel : decode cL_law 167 = .ok (.if_icmp .ge 79, 3)) (by decide) h246 h170
  have h166 : Sd E K 166 (q_L_law_166 V) := sd_alen X (by decide +kernel : decode cL_law 166 = .ok (.arraylength, 1)) h167
  have h163 : Sd E K 163 (q_L_law_163 V) := sd_gst X G.z6 (by decide +kernel : decode cL_law 163 = .ok (.getstatic 51, 3)) wd_890 h166
  have h161 : Sd E K 161 (q_L_law_161 V) := sd_iload X (by decide +kernel : decode cL_law 161 = .ok (.iload 7, 2)) h163
  have h158 : Sd E K 158 (q_L_law_158 V) := sd_if_eq X (by decide +kernel : decode cL_law 158 = .ok (.ifCond .eq 88, 3)) (by decide) h246 h161
  have h157 : Sd E K 157 (q_L_law_157 V) := sd_iload_n X (by decide +kernel : decode cL_law 157 = .ok (.iload_n 3, 1)) rfl h158
  have h155 : Sd E K 155 (q_L_law_155 V) := sd_istore X (by decide +kernel : decode cL_law 155 = .ok (.istore 7, 2)) (sd_s 157)
  have h154 : Sd E K 154 (q_L_law_154 V) := sd_iconst X (by decide +kernel : decode cL_law 154 = .ok (.iconst 0, 1)) (by decide +kernel) h155
  have h153 : Sd E K 153 (q_L_law_153 V) := sd_istore_n X (by decide +kernel : decode cL_law 153 = .ok (.istore_n 3, 1)) rfl h154
  have h152 : Sd E K 152 (q_L_law_152 V) := sd_iconst X (by decide +kernel : decode cL_law 152 = .ok (.iconst 0, 1)) (by decide +kernel) h153
  have h149 : Sd E K 149 (q_L_law_153 V) := sd_goto X (by decide +kernel : decode cL_law 149 = .ok (.goto 4, 3)) (by decide) h153
  have h148 : Sd E K 148 (q_L_law_148 V) := sd_iconst X (by decide +kernel : decode cL_law 148 = .ok (.iconst 1, 1)) (by decide +kernel) h149
  have h145 : Sd E K 145 (q_L_law_145 V) := sd_if_eq X (by decide +kernel : decode cL_law 145 = .ok (.ifCond .eq 7, 3)) (by decide) h152 h148
  have h142 : Sd E K 142 (q_L_law_142 V) := sd_callS (n := 1) X (ct_L_isSettled G) (by decide +kernel : decode cL_law 142 = .ok (.invokestatic 172, 3)) wd_1125 wd_1123 wd_1124 wd_23 (by decide +kernel) ⟨Nat.le_of_ble_eq_true rfl, Nat.le_of_ble_eq_true rfl⟩ h145
  have h141 : Sd E K 141 (q_L_law_141 V) := sd_aload_n X (by decide +kernel : decode cL_law 141 = .ok (.aload_n 1, 1)) rfl h142
  have h138 : Sd E K 138 (q_L_law_138 V) := sd_if_eq X (by decide +kernel : decode cL_law 138 = .ok (.ifCond .eq 14, 3)) (by decide) h152 h141
  have h137 : Sd E K 137 (q_L_law_137 V) := sd_iload_n X (by decide +kernel : decode cL_law 137 = .ok (.iload_n 3, 1)) rfl h138
  have h135 : Sd E K 135 (q_L_law_135 V) := sd_istore X (by decide +kernel : decode cL_law 135 = .ok (.istore 6, 2)) h137
  have h132 : Sd E K 132 (q_L_law_132 V) := sd_callV (n := 0) (ci := 11) X (ct_X12_save G) (by decide +kernel : decode cL_law 132 = .ok (.invokevirtual 69, 3)) wd_813 wd_810 wd_811 wd_812 wd_24 (by decide +kernel) (Or.inl ⟨by decide, _, _, rfl⟩) ⟨Nat.le_of_ble_eq_true rfl, Nat.le_of_ble_eq_true rfl⟩ h135
  have h131 : Sd E K 131 (q_L_law_131 V) := sd_aload_n X (by decide +kernel : decode cL_law 131 = .ok (.aload_n 1, 1)) rfl h132
  have h129 : Sd E K 129 (q_L_law_129 V) := sd_lstore X (by decide +kernel : decode cL_law 129 = .ok (.lstore 4, 2)) h131
  have h126 : Sd E K 126 (q_L_law_126 V) := sd_callS (n := 1) X (ct_L_digest G) (by decide +kernel : decode cL_law 126 = .ok (.invokestatic 153, 3)) wd_895 wd_893 wd_894 wd_23 (by decide +kernel) ⟨Nat.le_of_ble_eq_true rfl, Nat.le_of_ble_eq_true rfl⟩ h129
  have h125 : Sd E K 125 (q_L_law_125 V) := sd_aload_n X (by decide +kernel : decode cL_law 125 = .ok (.aload_n 1, 1)) rfl h126
  have h124 : Sd E K 124 (q_L_law_124 V) := sd_pop X (by decide +kernel : decode cL_law 124 = .ok (.pop, 1)) h125
  have h121 : Sd E K 121 (q_L_law_121 V) := sd_callV (n := 0) (ci := 11) X (ct_X12_run G) (by decide +kernel : decode cL_law 121 = .ok (.invokevirtual 61, 3)) wd_594 wd_591 wd_592 wd_593 wd_24 (by decide +kernel) (Or.inl ⟨by decide, _, _, rfl⟩) ⟨Nat.le_of_ble_eq_true rfl, Nat.le_of_ble_eq_true rfl⟩ h124
  have h120 : Sd E K 120 (q_L_law_120 V) := sd_aload_n X (by decide +kernel : decode cL_law 120 = .ok (.aload_n 1, 1)) rfl h121
  have h119 : Sd E K 119 (q_L_law_119 V) := sd_istore_n X (by decide +kernel : decode cL_law 119 = .ok (.istore_n 3, 1)) rfl h120
  have h116 : Sd E K 116 (q_L_law_116 V) := sd_callS (n := 1) X (ct_L_isFit G) (by decide +kernel : decode cL_law 116 = .ok (.invokestatic 169, 3)) wd_961 wd_959 wd_960 wd_23 (by decide +kernel) ⟨Nat.le_of_ble_eq_true rfl, Nat.le_of_ble_eq_true rfl⟩ h119
  have h115 : Sd E K 115 (q_L_law_115 V) := sd_aload_n X (by decide +kernel : decode cL_law 115 = .ok (.aload_n 1, 1)) rfl h116
  have h112 : Sd E K 112 (xs 74) := sd_goto X (by decide +kernel : decode cL_law 112 = .ok (.goto (-38), 3)) (by decide) (sd_s 74)
  have h109 : Sd E K 109 (q_L_law_109 V) := sd_iinc X (by decide +kernel : decode cL_law 109 = .ok (.iinc 3 1, 3)) (by decide +kernel) h112
  have h108 : Sd E K 108 (q_L_law_108 V) := sd_ret X (by decide +kernel : decode cL_law 108 = .ok (.ireturn, 1))
  have h107 : Sd E K 107 (q_L_law_107 V) := sd_iconst X (by decide +kernel : decode cL_law 107 = .ok (.iconst 0, 1)) (by decide +kernel) h108
  have h104 : Sd E K 104 (q_L_law_104 V) := sd_if_eq X (by decide +kernel : decode cL_law 104 = .ok (.ifCond .eq 5, 3)) (by decide) h109 h107
  have h103 : Sd E K 103 (q_L_law_103 V) := sd_lcmp X (by decide +kernel : decode cL_law 103 = .ok (.lcmp, 1)) h104
  have h101 : Sd E K 101 (q_L_law_101 V) := sd_lload X (by decide +kernel : decode cL_law 101 = .ok (.lload 4, 2)) h103
  have h98 : Sd E K 98 (q_L_law_98 V) := sd_callS (n := 1) X (ct_L_digest G) (by decide +kernel : decode cL_law 98 = .ok (.invokestatic 153, 3)) wd_895 wd_893 wd_894 wd_23 (by decide +kernel) ⟨Nat.le_of_ble_eq_true rfl, Nat.le_of_ble_eq_true rfl⟩ h101
  have h97 : Sd E K 97 (q_L_law_97 V) := sd_aload_n X (by decide +kernel : decode cL_law 97 = .ok (.aload_n 1, 1)) rfl h98
  have h94 : Sd E K 94 (q_L_law_94 V) := sd_if_ge X (by decide +kernel : decode cL_law 94 = .ok (.ifCond .ge 15, 3)) (by decide) h109 h97
  have h91 : Sd E K 91 (q_L_law_91 V) := sd_callS (n := 2) X (ct_L_act G) (by decide +kernel : decode cL_law 91 = .ok (.invokestatic 165, 3)) wd_874 wd_872 wd_873 wd_23 (by decide +kernel) ⟨Nat.le_of_ble_eq_true rfl, Nat.le_of_ble_eq_true rfl⟩ h94
  have h88 : Sd E K 88 (q_L_law_88 V) := sd_callS (n := 2) X (ct_L_cell G) (by decide +kernel : decode cL_law 88 = .ok (.invokestatic 161, 3)) wd_825 wd_823 wd_824 wd_23 (by decide +kernel) ⟨Nat.le_of_ble_eq_true rfl, Nat.le_of_ble_eq_true rfl⟩ h91
  have h87 : Sd E K 87 (q_L_law_87 V) := sd_iload_n X (by decide +kernel : decode cL_law 87 = .ok (.iload_n 3, 1)) rfl h88
  have h86 : Sd E K 86 (q_L_law_86 V) := sd_aload_n X (by decide +kernel : decode cL_law 86 = .ok (.aload_n 0, 1)) rfl h87
  have h85 : Sd E K 85 (q_L_law_85 V) := sd_aload_n X (by decide +kernel : decode cL_law 85 = .ok (.aload_n 1, 1)) rfl h86
  have h83 : Sd E K 83 (q_L_law_83 V) := sd_lstore X (by decide +kernel : decode cL_law 83 = .ok (.lstore 4, 2)) h85
  have h80 : Sd E K 80 (q_L_law_80 V) := sd_callS (n := 1) X (ct_L_digest G) (by decide +kernel : decode cL_law 80 = .ok (.invokestatic 153, 3)) wd_895 wd_893 wd_894 wd_23 (by decide +kernel) ⟨Nat.le_of_ble_eq_true rfl, Nat.le_of_ble_eq_true rfl⟩ h83
  have h79 : Sd E K 79 (q_L_law_79 V) := sd_aload_n X (by decide +kernel : decode cL_law 79 = .ok (.aload_n 1, 1)) rfl h80
  have h76 : Sd E K 76 (q_L_law_76 V) := sd_icmp_ge X (by decide +kernel : decode cL_law 76 = .ok (.if_icmp .ge 39, 3)) (by decide) h115 h79
  have h75 : Sd E K 75 (q_L_law_75 V) := sd_iload_n X (by decide +kernel : decode cL_law 75 = .ok (.iload_n 2, 1)) rfl h76
  have h74 : Sd E K 74 (q_L_law_74 V) := sd_iload_n X (by decide +kernel : decode cL_law 74 = .ok (.iload_n 3, 1)) rfl h75
  have h73 : Sd E K 73 (q_L_law_73 V) := sd_istore_n X (by decide +kernel : decode cL_law 73 = .ok (.istore_n 3, 1)) rfl (sd_s 74)
  have h72 : Sd E K 72 (q_L_law_72 V) := sd_iconst X (by decide +kernel : decode cL_law 72 = .ok (.iconst 0, 1)) (by decide +kernel) h73
  have h71 : Sd E K 71 (q_L_law_71 V) := sd_istore_n X (by decide +kernel : decode cL_law 71 = .ok (.istore_n 2, 1)) rfl h72
  have h69 : Sd E K 69 (q_L_law_69 V) := sd_bipush X (by decide +kernel : decode cL_law 69 = .ok (.bipush 44, 2)) (by decide +kernel) h71
  have h66 : Sd E K 66 (q_L_law_71 V) := sd_goto X (by decide +kernel : decode cL_law 66 = .ok (.goto 5, 3)) (by decide) h71
  have h65 : Sd E K 65 (q_L_law_65 V) := sd_alen X (by decide +kernel : decode cL_law 65 = .ok (.arraylength, 1)) h66
  have h64 : Sd E K 64 (q_L_law_64 V) := sd_aload_n X (by decide +kernel : decode cL_law 64 = .ok (.aload_n 0, 1)) rfl h65
  have h61 : Sd E K 61 (q_L_law_61 V) := sd_icmp_ge X (by decide +kernel : decode cL_law 61 = .ok (.if_icmp .ge 8, 3)) (by decide) h69 h64
  have h59 : Sd E K 59 (q_L_law_59 V) := sd_bipush X (by decide +kernel : decode cL_law 59 = .ok (.bipush 44, 2)) (by decide +kernel) h61
  have h58 : Sd E K 58 (q_L_law_58 V) := sd_alen X (by decide +kernel : decode cL_law 58 = .ok (.arraylength, 1)) h59
  have h57 : Sd E K 57 (q_L_law_57 V) := sd_aload_n X (by decide +kernel : decode cL_law 57 = .ok (.aload_n 0, 1)) rfl h58
  have h56 : Sd E K 56 (q_L_law_56 V) := sd_pop X (by decide +kernel : decode cL_law 56 = .ok (.pop, 1)) h57
  have h53 : Sd E K 53 (q_L_law_53 V) := sd_callV (n := 1) (ci := 11) X (ct_X12_day G) (by decide +kernel : decode cL_law 53 = .ok (.invokevirtual 48, 3)) wd_526 wd_523 wd_524 wd_525 wd_24 (by decide +kernel) (Or.inl ⟨by decide, _, _, rfl⟩) ⟨Nat.le_of_ble_eq_true rfl, Nat.le_of_ble_eq_true rfl⟩ h56
  have h52 : Sd E K 52 (q_L_law_52 V) := sd_iconst X (by decide +kernel : decode cL_law 52 = .ok (.iconst 1, 1)) (by decide +kernel) h53
  have h51 : Sd E K 51 (q_L_law_51 V) := sd_aload_n X (by decide +kernel : decode cL_law 51 = .ok (.aload_n 1, 1)) rfl h52
  have h50 : Sd E K 50 (q_L_law_50 V) := sd_pop X (by decide +kernel : decode cL_law 50 = .ok (.pop, 1)) h51
  have h47 : Sd E K 47 (q_L_law_47 V) := sd_callV (n := 3) (ci := 11) X (ct_X12_road G) (by decide +kernel : decode cL_law 47 = .ok (.invokevirtual 27, 3)) wd_462 wd_459 wd_460 wd_461 wd_24 (by decide +kernel) (Or.inl ⟨by decide, _, _, rfl⟩) ⟨Nat.le_of_ble_eq_true rfl, Nat.le_of_ble_eq_true rfl⟩ h50
  have h45 : Sd E K 45 (q_L_law_45 V) := sd_bipush X (by decide +kernel : decode cL_law 45 = .ok (.bipush 7, 2)) (by decide +kernel) h47
  have h44 : Sd E K 44 (q_L_law_44 V) := sd_iconst X (by decide +kernel : decode cL_law 44 = .ok (.iconst 3, 1)) (by decide +kernel) h45
  have h43 : Sd E K 43 (q_L_law_43 V) := sd_iconst X (by decide +kernel : decode cL_law 43 = .ok (.iconst 2, 1)) (by decide +kernel) h44
  have h42 : Sd E K 42 (q_L_law_42 V) := sd_aload_n X (by decide +kernel : decode cL_law 42 = .ok (.aload_n 1, 1)) rfl h43
  have h41 : Sd E K 41 (q_L_law_41 V) := sd_pop X (by decide +kernel : decode cL_law 41 = .ok (.pop, 1)) h42
  have h38 : Sd E K 38 (q_L_law_38 V) := sd_callV (n := 3) (ci := 11) X (ct_X12_road G) (by decide +kernel : decode cL_law 38 = .ok (.invokevirtual 27, 3)) wd_462 wd_459 wd_460 wd_461 wd_24 (by decide +kernel) (Or.inl ⟨by decide, _, _, rfl⟩) ⟨Nat.le_of_ble_eq_true rfl, Nat.le_of_ble_eq_true rfl⟩ h41
  have h37 : Sd E K 37 (q_L_law_37 V) := sd_iconst X (by decide +kernel : decode cL_law 37 = .ok (.iconst 3, 1)) (by decide +kernel) h38
  have h36 : Sd E K 36 (q_L_law_36 V) := sd_iconst X (by decide +kernel : decode cL_law 36 = .ok (.iconst 2, 1)) (by decide +kernel) h37
  have h35 : Sd E K 35 (q_L_law_35 V) := sd_iconst X (by decide +kernel : decode cL_law 35 = .ok (.iconst 1, 1)) (by decide +kernel) h36
  have h34 : Sd E K 34 (q_L_law_34 V) := sd_aload_n X (by decide +kernel : decode cL_law 34 = .ok (.aload_n 1, 1)) rfl h35
  have h33 : Sd E K 33 (q_L_law_33 V) := sd_pop X (by decide +kernel : decode cL_law 33 = .ok (.pop, 1)) h34
  have h30 : Sd E K 30 (q_L_law_30 V) := sd_callV (n := 3) (ci := 11) X (ct_X12_road G) (by decide +kernel : decode cL_law 30 = .ok (.invokevirtual 27, 3)) wd_462 wd_459 wd_460 wd_461 wd_24 (by decide +kernel) (Or.inl ⟨by decide, _, _, rfl⟩) ⟨Nat.le_of_ble_eq_true rfl, Nat.le_of_ble_eq_true rfl⟩ h33
  have h29 : Sd E K 29 (q_L_law_29 V) := sd_iconst X (by decide +kernel : decode cL_law 29 = .ok (.iconst 4, 1)) (by decide +kernel) h30
  have h28 : Sd E K 28 (q_L_law_28 V) := sd_iconst X (by decide +kernel : decode cL_law 28 = .ok (.iconst 1, 1)) (by decide +kernel) h29
  have h27 : Sd E K 27 (q_L_law_27 V) := sd_iconst X (by decide +kernel : decode cL_law 27 = .ok (.iconst 0, 1)) (by decide +kernel) h28
  have h26 : Sd E K 26 (q_L_law_26 V) := sd_aload_n X (by decide +kernel : decode cL_law 26 = .ok (.aload_n 1, 1)) rfl h27
  have h23 : Sd E K 23 (xs 10) := sd_goto X (by decide +kernel : decode cL_law 23 = .ok (.goto (-13), 3)) (by decide) (sd_s 10)
  have h20 : Sd E K 20 (q_L_law_20 V) := sd_iinc X (by decide +kernel : decode cL_law 20 = .ok (.iinc 2 1, 3)) (by decide +kernel) h23
  have h19 : Sd E K 19 (q_L_law_19 V) := sd_pop X (by decide +kernel : decode cL_law 19 = .ok (.pop, 1)) h20
  have h16 : Sd E K 16 (q_L_law_16 V) := sd_callV (n := 0) (ci := 11) X (ct_X12_fort G) (by decide +kernel : decode cL_law 16 = .ok (.invokevirtual 24, 3)) wd_411 wd_408 wd_409 wd_410 wd_24 (by decide +kernel) (Or.inl ⟨by decide, _, _, rfl⟩) ⟨Nat.le_of_ble_eq_true rfl, Nat.le_of_ble_eq_true rfl⟩ h19
  have h15 : Sd E K 15 (q_L_law_15 V) := sd_aload_n X (by decide +kernel : decode cL_law 15 = .ok (.aload_n 1, 1)) rfl h16
  have h12 : Sd E K 12 (q_L_law_12 V) := sd_icmp_ge X (by decide +kernel : decode cL_law 12 = .ok (.if_icmp .ge 14, 3)) (by decide) h26 h15
  have h11 : Sd E K 11 (q_L_law_11 V) := sd_iconst X (by decide +kernel : decode cL_law 11 = .ok (.iconst 4, 1)) (by decide +kernel) h12
  have h10 : Sd E K 10 (q_L_law_10 V) := sd_iload_n X (by decide +kernel : decode cL_law 10 = .ok (.iload_n 2, 1)) rfl h11
  have h9 : Sd E K 9 (q_L_law_9 V) := sd_istore_n X (by decide +kernel : decode cL_law 9 = .ok (.istore_n 2, 1)) rfl (sd_s 10)
  have h8 : Sd E K 8 (q_L_law_8 V) := sd_iconst X (by decide +kernel : decode cL_law 8 = .ok (.iconst 0, 1)) (by decide +kernel) h9
  have h7 : Sd E K 7 (q_L_law_7 V) := sd_astore_n X (by decide +kernel : decode cL_law 7 = .ok (.astore_n 1, 1)) rfl h8
  have h4 : Sd E K 4 (q_L_law_4 V) := sd_callI (n := 0) (ci := 11) X (ct_X12_init G) (by decide +kernel : decode cL_law 4 = .ok (.invokespecial 160, 3)) wd_53 wd_51 wd_52 wd_24 rfl (by decide +kernel) ⟨Nat.le_of_ble_eq_true rfl, Nat.le_of_ble_eq_true rfl⟩ h7
  have h3 : Sd E K 3 (q_L_law_3 V) := sd_dup X (by decide +kernel : decode cL_law 3 = .ok (.dup, 1)) h4
  have h0 : Sd E K 0 (q_L_law_0 V) := sd_new X (by decide +kernel : decode cL_law 0 = .ok (.new 19, 3)) ok_X12 (by decide) wd_49 wd_50 wd_24 h3
  exact ⟨h0, h10, h74, h157, h249⟩
set_option maxHeartbeats 4000000 in
set_option maxRecDepth 100000 in
theorem law_body {s0 : State} {D : va_G} {ids : Nat → ClassId} {V : Nat → Nat} {l : Launch} {K : Kr} {E : Ej} (G : GG s0 D ids V) (X : EnX s0 D ids l RL cL_law 9 (some .boolean) "law" rm_L_law K E) {sA n z : Nat} {g : Nat → Int32} {f : Fm} (hn : n < 2147483648) (hsz : sA < z) (hs : f sA = some (.inl (7, n, .inl g))) (hV : csF V f z) (hK : ∀ z' f', K (some (.int (nI 1))) z' f') : E 0 (ls0 [.ref sA] 9) [] (z, rm_L_law.cells, rm_L_law.slots) f := by
  obtain ⟨t0, t10, t74, t157, t249⟩ := t_L_law G X
  refine t0 _ _ _ _ ?_
  simp (disch := omega) only [q_L_law_0, q_L_law_3, q_L_law_4, q_L_law_7, q_L_law_8, q_L_law_9, q_L_law_10, q_L_law_11, q_L_law_12, q_L_law_15, q_L_law_16, q_L_law_19, q_L_law_20, q_L_law_26, q_L_law_27, q_L_law_28, q_L_law_29, q_L_law_30, q_L_law_33, q_L_law_34, q_L_law_35, q_L_law_36, q_L_law_37, q_L_law_38, q_L_law_41, q_L_law_42, q_L_law_43, q_L_law_44, q_L_law_45, q_L_law_47, q_L_law_50, q_L_law_51, q_L_law_52, q_L_law_53, q_L_law_56, q_L_law_57, q_L_law_58, q_L_law_59, q_L_law_61, q_L_law_64, q_L_law_65, q_L_law_69, q_L_law_71, q_L_law_72, q_L_law_73, q_L_law_74, q_L_law_75, q_L_law_76, q_L_law_79, q_L_law_80, q_L_law_83, q_L_law_85, q_L_law_86, q_L_law_87, q_L_law_88, q_L_law_91, q_L_law_94, q_L_law_97, q_L_law_98, q_L_law_101, q_L_law_103, q_L_law_104, q_L_law_107, q_L_law_108, q_L_law_109, q_L_law_115, q_L_law_116, q_L_law_119, q_L_law_120, q_L_law_121, q_L_law_124, q_L_law_125, q_L_law_126, q_L_law_129, q_L_law_131, q_L_law_132, q_L_law_135, q_L_law_137, q_L_law_138, q_L_law_141, q_L_law_142, q_L_law_145, q_L_law_148, q_L_law_152, q_L_law_153, q_L_law_154, q_L_law_155, q_L_law_157, q_L_law_158, q_L_law_161, q_L_law_163, q_L_law_166, q_L_law_167, q_L_law_170, q_L_law_171, q_L_law_174, q_L_law_176, q_L_law_177, q_L_law_180, q_L_law_183, q_L_law_185, q_L_law_187, q_L_law_190, q_L_law_192, q_L_law_194, q_L_law_197, q_L_law_198, q_L_law_199, q_L_law_202, q_L_law_204, q_L_law_210, q_L_law_211, q_L_law_214, q_L_law_217, q_L_law_218, q_L_law_221, q_L_law_224, q_L_law_225, q_L_law_228, q_L_law_230, q_L_law_231, q_L_law_234, q_L_law_238, q_L_law_239, q_L_law_240, q_L_law_246, q_L_law_247, q_L_law_249, q_L_law_250, q_L_law_253, q_L_law_255, q_L_law_257, q_L_law_260, q_L_law_261, q_L_law_263, q_L_law_264, q_L_law_265, q_L_law_267, q_L_law_268, q_L_law_269, q_L_law_271, q_L_law_272, q_L_law_273, q_L_law_274, q_L_law_275, q_L_law_276, q_L_law_277, q_L_law_279, q_L_law_280, q_L_law_283, q_L_law_284, q_L_law_285, q_L_law_287, q_L_law_288, q_L_law_289, q_L_law_290, q_L_law_293, q_L_law_294, q_L_law_295, q_L_law_296, q_L_law_299, q_L_law_300, q_L_law_301, q_L_law_303, q_L_law_304, q_L_law_305, q_L_law_307, q_L_law_308, q_L_law_309, q_L_law_310, q_L_law_311, q_L_law_314, q_L_law_315, q_L_law_316, q_L_law_317, q_L_law_320, q_L_law_321, q_L_law_322, q_L_law_325, q_L_law_326, q_L_law_332, q_L_law_333, q_L_law_336, q_L_law_337, q_L_law_340, q_L_law_342, q_L_law_345, q_L_law_346, q_L_law_349, q_L_law_351, q_L_law_352, q_L_law_355, q_L_law_356, q_L_law_359, q_L_law_361, q_L_law_364, q_L_law_368, q_L_law_369, xpush, xiload, xaload, xlload, xfload, xdload, lkill, xistore, xastore, xfstore, xlstore, xdstore, xiinc, xbin, xdiv, xun, xlbin, xi2l, xi2f, xi2d, xlcmp, xfcmp, xdcmp, xfdiv, xddiv, c1, xdup, xpop, xdup_x1, xdup2, xif, xicmp, xtab, xtabL, xget, xput, xald, xast, xalen, xnew, xnewa, c1s, recvOk, xcall, kont, xret, xlret, xfret, xdret, xaret, xvret, xs, xnewq, xastq, xcopy, xcopyF, xobj, xmax, xmin, xdead, xpushq, xmna, ls0, List.map_cons, List.map_nil, List.length_cons, List.length_nil, List.replicate, List.append_nil, List.cons_append, List.nil_append, List.getElem?_cons_zero, List.getElem?_cons_succ, List.getElem?_nil, List.set_cons_zero, List.set_cons_succ, List.take_succ_cons, List.take_zero, List.drop_succ_cons, List.drop_zero, List.reverse_cons, List.reverse_nil, List.sum_cons, List.sum_nil, Value.category, Option.toList_some, Option.toList_none, Nat.reduceAdd, Nat.reduceSub, Nat.reduceLT, Nat.reduceLeDiff, Nat.zero_add, Nat.le_refl, true_and, and_true, Nat.sub_zero, Nat.zero_lt_succ, Nat.zero_le, Nat.not_lt_zero, Nat.reduceEqDiff, Nat.one_ne_zero, nI_toInt, Int.reduceEq, Int.reduceAdd, Int.reduceLT, Int.reduceLE, Int.cast_ofNat_Int, reduceIte, or_false, false_or, eq_self, or_true, true_or, or_self, nI_clamp, vp_in_nI, nI_ltI, nI_leI, nI_eq, nI_add, nI_zero9, nI_nlt0, nI_le0, nI_lt0, arG, va_rf, not_false_eq_true, not_true_eq_false, false_implies, true_implies, implies_true, ne_eq, okv_int, okv_z0, okv_z1, okv_zN, okv_ref, okv_arr, okv_null, vn_z0, vn_z1, vn_zN, nr_int, nr_z, va_up_self, up_fr, rw1_j, rw1_up, hs]
  refine ⟨Nat.le_of_ble_eq_true rfl, Nat.le_of_ble_eq_true rfl, Nat.le_of_ble_eq_true rfl, Nat.le_of_ble_eq_true rfl, z, rfl, rfl, va_up_self _ _ _, hV.fr (fun q hq => up_fr (by omega)), fun f1 g1 fr1 => ?_⟩
  simp (disch := omega) only [q_L_law_0, q_L_law_3, q_L_law_4, q_L_law_7, q_L_law_8, q_L_law_9, q_L_law_10, q_L_law_11, q_L_law_12, q_L_law_15, q_L_law_16, q_L_law_19, q_L_law_20, q_L_law_26, q_L_law_27, q_L_law_28, q_L_law_29, q_L_law_30, q_L_law_33, q_L_law_34, q_L_law_35, q_L_law_36, q_L_law_37, q_L_law_38, q_L_law_41, q_L_law_42, q_L_law_43, q_L_law_44, q_L_law_45, q_L_law_47, q_L_law_50, q_L_law_51, q_L_law_52, q_L_law_53, q_L_law_56, q_L_law_57, q_L_law_58, q_L_law_59, q_L_law_61, q_L_law_64, q_L_law_65, q_L_law_69, q_L_law_71, q_L_law_72, q_L_law_73, q_L_law_74, q_L_law_75, q_L_law_76, q_L_law_79, q_L_law_80, q_L_law_83, q_L_law_85, q_L_law_86, q_L_law_87, q_L_law_88, q_L_law_91, q_L_law_94, q_L_law_97, q_L_law_98, q_L_law_101, q_L_law_103, q_L_law_104, q_L_law_107, q_L_law_108, q_L_law_109, q_L_law_115, q_L_law_116, q_L_law_119, q_L_law_120, q_L_law_121, q_L_law_124, q_L_law_125, q_L_law_126, q_L_law_129, q_L_law_131, q_L_law_132, q_L_law_135, q_L_law_137, q_L_law_138, q_L_law_141, q_L_law_142, q_L_law_145, q_L_law_148, q_L_law_152, q_L_law_153, q_L_law_154, q_L_law_155, q_L_law_157, q_L_law_158, q_L_law_161, q_L_law_163, q_L_law_166, q_L_law_167, q_L_law_170, q_L_law_171, q_L_law_174, q_L_law_176, q_L_law_177, q_L_law_180, q_L_law_183, q_L_law_185, q_L_law_187, q_L_law_190, q_L_law_192, q_L_law_194, q_L_law_197, q_L_law_198, q_L_law_199, q_L_law_202, q_L_law_204, q_L_law_210, q_L_law_211, q_L_law_214, q_L_law_217, q_L_law_218, q_L_law_221, q_L_law_224, q_L_law_225, q_L_law_228, q_L_law_230, q_L_law_231, q_L_law_234, q_L_law_238, q_L_law_239, q_L_law_240, q_L_law_246, q_L_law_247, q_L_law_249, q_L_law_250, q_L_law_253, q_L_law_255, q_L_law_257, q_L_law_260, q_L_law_261, q_L_law_263, q_L_law_264, q_L_law_265, q_L_law_267, q_L_law_268, q_L_law_269, q_L_law_271, q_L_law_272, q_L_law_273, q_L_law_274, q_L_law_275, q_L_law_276, q_L_law_277, q_L_law_279, q_L_law_280, q_L_law_283, q_L_law_284, q_L_law_285, q_L_law_287, q_L_law_288, q_L_law_289, q_L_law_290, q_L_law_293, q_L_law_294, q_L_law_295, q_L_law_296, q_L_law_299, q_L_law_300, q_L_law_301, q_L_law_303, q_L_law_304, q_L_law_305, q_L_law_307, q_L_law_308, q_L_law_309, q_L_law_310, q_L_law_311, q_L_law_314, q_L_law_315, q_L_law_316, q_L_law_317, q_L_law_320, q_L_law_321, q_L_law_322, q_L_law_325, q_L_law_326, q_L_law_332, q_L_law_333, q_L_law_336, q_L_law_337, q_L_law_340, q_L_law_342, q_L_law_345, q_L_law_346, q_L_law_349, q_L_law_351, q_L_law_352, q_L_law_355, q_L_law_356, q_L_law_359, q_L_law_361, q_L_law_364, q_L_law_368, q_L_law_369, xpush, xiload, xaload, xlload, xfload, xdload, lkill, xistore, xastore, xfstore, xlstore, xdstore, xiinc, xbin, xdiv, xun, xlbin, xi2l, xi2f, xi2d, xlcmp, xfcmp, xdcmp, xfdiv, xddiv, c1, xdup, xpop, xdup_x1, xdup2, xif, xicmp, xtab, xtabL, xget, xput, xald, xast, xalen, xnew, xnewa, c1s, recvOk, xcall, kont, xret, xlret, xfret, xdret, xaret, xvret, xs, xnewq, xastq, xcopy, xcopyF, xobj, xmax, xmin, xdead, xpushq, xmna, ls0, List.map_cons, List.map_nil, List.length_cons, List.length_nil, List.replicate, List.append_nil, List.cons_append, List.nil_append, List.getElem?_cons_zero, List.getElem?_cons_succ, List.getElem?_nil, List.set_cons_zero, List.set_cons_succ, List.take_succ_cons, List.take_zero, List.drop_succ_cons, List.drop_zero, List.reverse_cons, List.reverse_nil, List.sum_cons, List.sum_nil, Value.category, Option.toList_some, Option.toList_none, Nat.reduceAdd, Nat.reduceSub, Nat.reduceLT, Nat.reduceLeDiff, Nat.zero_add, Nat.le_refl, true_and, and_true, Nat.sub_zero, Nat.zero_lt_succ, Nat.zero_le, Nat.not_lt_zero, Nat.reduceEqDiff, Nat.one_ne_zero, nI_toInt, Int.reduceEq, Int.reduceAdd, Int.reduceLT, Int.reduceLE, Int.cast_ofNat_Int, reduceIte, or_false, false_or, eq_self, or_true, true_or, or_self, nI_clamp, vp_in_nI, nI_ltI, nI_leI, nI_eq, nI_add, nI_zero9, nI_nlt0, nI_le0, nI_lt0, arG, va_rf, not_false_eq_true, not_true_eq_false, false_implies, true_implies, implies_true, ne_eq, okv_int, okv_z0, okv_z1, okv_zN, okv_ref, okv_arr, okv_null, vn_z0, vn_z1, vn_zN, nr_int, nr_z, va_up_self, up_fr, rw1_j, rw1_up]
  skip
