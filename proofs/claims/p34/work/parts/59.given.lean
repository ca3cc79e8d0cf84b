/-! what the Statement gives of the start -/
def nw : List Cond := flatC (Cond.and given_1 narrow_1)
theorem nwm {s : State} {b : Nat} (h : (Cond.and given_1 narrow_1).before #[Value.ref b] s = true) {i : Nat} {c : Cond} (hi : nw[i]? = some c) : c.before #[Value.ref b] s = true := flat_of_before _ h _ (List.mem_of_getElem? hi)
def fmE : Nat → Nat := fun k => match k with
  | 0 => 55
  | 1 => 61
  | 2 => 64
  | 3 => 67
  | 4 => 70
  | 5 => 73
  | 6 => 76
  | 7 => 79
  | _ => 82
def txE : Nat → Nat := fun k => match k with
  | 0 => 175
  | 1 => 176
  | 2 => 178
  | 3 => 180
  | 4 => 182
  | 5 => 184
  | 6 => 186
  | 7 => 188
  | 8 => 190
  | 9 => 192
  | 10 => 194
  | 11 => 196
  | 12 => 198
  | 13 => 200
  | 14 => 202
  | 15 => 204
  | 16 => 206
  | 17 => 208
  | 18 => 210
  | 19 => 212
  | 20 => 214
  | _ => 216
def fmX9 : Nat → Nat := fun k => match k with
  | 0 => 329
  | 1 => 632
  | 2 => 647
  | 3 => 658
  | 4 => 668
  | 5 => 678
  | 6 => 687
  | 7 => 698
  | _ => 708
def txX9 : Nat → Nat := fun k => match k with
  | 0 => 337
  | 1 => 346
  | 2 => 360
  | 3 => 386
  | 4 => 397
  | 5 => 416
  | 6 => 426
  | 7 => 443
  | 8 => 453
  | 9 => 462
  | 10 => 479
  | 11 => 496
  | 12 => 505
  | 13 => 521
  | 14 => 533
  | 15 => 551
  | 16 => 563
  | 17 => 572
  | 18 => 581
  | 19 => 592
  | 20 => 606
  | _ => 617
def fmC9 : Nat → Nat := fun k => match k with
  | 0 => 330
  | 1 => 633
  | 2 => 648
  | 3 => 659
  | 4 => 669
  | 5 => 679
  | 6 => 688
  | 7 => 699
  | _ => 709
def txC9 : Nat → Nat := fun k => match k with
  | 0 => 338
  | 1 => 347
  | 2 => 361
  | 3 => 387
  | 4 => 398
  | 5 => 417
  | 6 => 427
  | 7 => 444
  | 8 => 454
  | 9 => 463
  | 10 => 480
  | 11 => 497
  | 12 => 506
  | 13 => 522
  | 14 => 534
  | 15 => 552
  | 16 => 564
  | 17 => 573
  | 18 => 582
  | 19 => 593
  | 20 => 607
  | _ => 618
def fmA9 : Nat → Nat := fun k => match k with
  | 0 => 331
  | 1 => 634
  | 2 => 649
  | 3 => 660
  | 4 => 670
  | 5 => 680
  | 6 => 689
  | 7 => 700
  | _ => 710
def txA9 : Nat → Nat := fun k => match k with
  | 0 => 339
  | 1 => 348
  | 2 => 362
  | 3 => 388
  | 4 => 399
  | 5 => 418
  | 6 => 428
  | 7 => 445
  | 8 => 455
  | 9 => 464
  | 10 => 481
  | 11 => 498
  | 12 => 507
  | 13 => 523
  | 14 => 535
  | 15 => 553
  | 16 => 565
  | 17 => 574
  | 18 => 583
  | 19 => 594
  | 20 => 608
  | _ => 619
def fmN9 : Nat → Nat := fun k => match k with
  | 0 => 332
  | 1 => 635
  | 2 => 650
  | 3 => 661
  | 4 => 671
  | 5 => 681
  | 6 => 690
  | 7 => 701
  | _ => 711
def txN9 : Nat → Nat := fun k => match k with
  | 0 => 340
  | 1 => 349
  | 2 => 363
  | 3 => 389
  | 4 => 400
  | 5 => 419
  | 6 => 429
  | 7 => 446
  | 8 => 456
  | 9 => 465
  | 10 => 482
  | 11 => 499
  | 12 => 508
  | 13 => 524
  | 14 => 536
  | 15 => 554
  | 16 => 566
  | 17 => 575
  | 18 => 584
  | 19 => 595
  | 20 => 609
  | _ => 620
def fmE9 : Nat → Nat := fun k => match k with
  | 0 => 333
  | 1 => 636
  | 2 => 651
  | 3 => 662
  | 4 => 672
  | 5 => 682
  | 6 => 691
  | 7 => 702
  | _ => 712
def txE9 : Nat → Nat := fun k => match k with
  | 0 => 341
  | 1 => 350
  | 2 => 364
  | 3 => 390
  | 4 => 401
  | 5 => 420
  | 6 => 430
  | 7 => 447
  | 8 => 457
  | 9 => 466
  | 10 => 483
  | 11 => 500
  | 12 => 509
  | 13 => 525
  | 14 => 537
  | 15 => 555
  | 16 => 567
  | 17 => 576
  | 18 => 585
  | 19 => 596
  | 20 => 610
  | _ => 621
def kdN : Nat → String := fun k => match k with
  | 0 => "FORT"
  | 1 => "ROAD"
  | 2 => "CUT"
  | 3 => "MUTE"
  | 4 => "OPEN"
  | 5 => "WAY"
  | 6 => "BOUND"
  | 7 => "DAY"
  | _ => "POST"
def kdX : Nat → Nat := fun k => match k with
  | 0 => 5
  | 1 => 269
  | 2 => 273
  | 3 => 278
  | 4 => 284
  | 5 => 291
  | 6 => 299
  | 7 => 308
  | _ => 318
def kdO : Nat → Nat := fun k => match k with
  | 0 => 6
  | 1 => 270
  | 2 => 274
  | 3 => 279
  | 4 => 285
  | 5 => 292
  | 6 => 300
  | 7 => 309
  | _ => 319
def kdF : Nat → Nat := fun k => match k with
  | 0 => 7
  | 1 => 271
  | 2 => 275
  | 3 => 280
  | 4 => 286
  | 5 => 293
  | 6 => 301
  | 7 => 310
  | _ => 320
def fmT (k : Nat) : Term := .string "FortHeralds$Kind" (fmE k)
def txT (k : Nat) : Term := .string "FortHeraldsLaw" (txE k)
def kdT (k : Nat) : Term := .static "FortHeralds$Kind" (kdN k) "LFortHeralds$Kind;"
def vlT (t : Term) : Term := .field t "java/lang/String" "value" "[B"
theorem fm_0 : ∀ k, k < 9 → nw[fmX9 k]? = some (Cond.exactly (fmT k) "java/lang/String") := by decide +kernel
theorem fm_1 : ∀ k, k < 9 → nw[fmC9 k]? = some (Cond.eq (.field (fmT k) "java/lang/String" "coder" "B") (.int 0)) := by decide +kernel
theorem fm_2 : ∀ k, k < 9 → nw[fmA9 k]? = some (Cond.arrayOf (vlT (fmT k)) .byte) := by decide +kernel
theorem fm_3 : ∀ k, k < 9 → nw[fmN9 k]? = some (Cond.eq (.length (vlT (fmT k))) (.int (Int32.ofNat (formL k).length))) := by decide +kernel
theorem fm_4 : ∀ k, k < 9 → ∀ j, j < (formL k).length → nw[fmE9 k + j]? = some (Cond.eq (.elem (vlT (fmT k)) (.int (Int32.ofNat j))) (.int (nI ((formL k).getD j 0)))) := by decide +kernel
theorem tx_0 : ∀ k, k < 22 → nw[txX9 k]? = some (Cond.exactly (txT k) "java/lang/String") := by decide +kernel
theorem tx_1 : ∀ k, k < 22 → nw[txC9 k]? = some (Cond.eq (.field (txT k) "java/lang/String" "coder" "B") (.int 0)) := by decide +kernel
theorem tx_2 : ∀ k, k < 22 → nw[txA9 k]? = some (Cond.arrayOf (vlT (txT k)) .byte) := by decide +kernel
theorem tx_3 : ∀ k, k < 22 → nw[txN9 k]? = some (Cond.eq (.length (vlT (txT k))) (.int (Int32.ofNat (textL k).length))) := by decide +kernel
theorem tx_4 : ∀ k, k < 22 → ∀ j, j < (textL k).length → nw[txE9 k + j]? = some (Cond.eq (.elem (vlT (txT k)) (.int (Int32.ofNat j))) (.int (nI ((textL k).getD j 0)))) := by decide +kernel
theorem kd_0 : ∀ k, k < 9 → nw[kdX k]? = some (Cond.exactly (kdT k) "FortHeralds$Kind") := by decide +kernel
theorem kd_1 : ∀ k, k < 9 → nw[kdO k]? = some (Cond.eq (.field (kdT k) "java/lang/Enum" "ordinal" "I") (.int (nI k))) := by decide +kernel
theorem kd_2 : ∀ k, k < 9 → nw[kdF k]? = some (Cond.eq (.field (kdT k) "FortHeralds$Kind" "form" "Ljava/lang/String;") (fmT k)) := by decide +kernel
def kkT : Term := (.static "FortHeralds$Reader" "KINDS" "[LFortHeralds$Kind;")
theorem kk_0 : nw[10]? = some (Cond.arrayOf kkT (.object "FortHeralds$Kind")) := by decide +kernel
theorem kk_1 : nw[11]? = some (Cond.eq (.length kkT) (.int (Int32.ofNat 9))) := by decide +kernel
theorem kk_2 : ∀ j, j < 9 → nw[13 + j]? = some (Cond.eq (.elem kkT (.int (Int32.ofNat j))) (kdT j)) := by decide +kernel
def ttT : Term := (.static "FortHeraldsLaw" "TEXTS" "[Ljava/lang/String;")
theorem tt_0 : nw[39]? = some (Cond.arrayOf ttT (.object "java/lang/String")) := by decide +kernel
theorem tt_1 : nw[40]? = some (Cond.eq (.length ttT) (.int (Int32.ofNat 22))) := by decide +kernel
theorem tt_2 : ∀ j, j < 22 → nw[41 + j]? = some (Cond.eq (.elem ttT (.int (Int32.ofNat j))) (txT j)) := by decide +kernel
def swT : Term := (.static "FortHeralds$1" "$SwitchMap$FortHeralds$Kind" "[I")
theorem sw_0 : nw[27]? = some (Cond.arrayOf swT .int) := by decide +kernel
theorem sw_1 : nw[28]? = some (Cond.eq (.length swT) (.int (Int32.ofNat 9))) := by decide +kernel
theorem sw_2 : ∀ j, j < 9 → nw[29 + j]? = some (Cond.eq (.elem swT (.int (Int32.ofNat j))) (.int (nI (if j < 8 then j + 1 else 0)))) := by decide +kernel
def dtT : Term := (.static "java/lang/Integer" "DigitTens" "[B")
theorem dt_0 : nw[167]? = some (Cond.arrayOf dtT .byte) := by decide +kernel
theorem dt_1 : nw[168]? = some (Cond.eq (.length dtT) (.int (Int32.ofNat 100))) := by decide +kernel
theorem dt_2 : ∀ j, j < 100 → nw[169 + j]? = some (Cond.eq (.elem dtT (.int (Int32.ofNat j))) (.int (nI (dgT j)))) := by decide +kernel
def do9T : Term := (.static "java/lang/Integer" "DigitOnes" "[B")
theorem do9_0 : nw[64]? = some (Cond.arrayOf do9T .byte) := by decide +kernel
theorem do9_1 : nw[65]? = some (Cond.eq (.length do9T) (.int (Int32.ofNat 100))) := by decide +kernel
theorem do9_2 : ∀ j, j < 100 → nw[66 + j]? = some (Cond.eq (.elem do9T (.int (Int32.ofNat j))) (.int (nI (dgO j)))) := by decide +kernel
theorem cs_0 : nw[4]? = some (Cond.eq (.static "java/lang/String" "COMPACT_STRINGS" "Z") (.int 1)) := by decide +kernel
theorem sf_0 : nw[22]? = some (Cond.isRef (.static "jdk/internal/util/Preconditions" "SIOOBE_FORMATTER" "Ljava/util/function/BiFunction;")) := by decide +kernel
