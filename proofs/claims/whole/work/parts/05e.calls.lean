abbrev mm_iv0 (co x y : Nat) : Prop := mm_mt y ∧ mm_cd y ∧ Cond.methodLink (t_ON co) x (t_MN y) ∈ t_WS ∧ Cond.instanceMethod (t_MN y) ∈ t_WS ∧ Cond.selects (t_MN y).cls (t_MN y) (t_MN y) ∈ t_WS
abbrev mm_iv1 (co x y : Nat) : Prop := mm_mt y ∧ mm_cd y ∧ Cond.methodLink (t_ON co) x (t_MN y) ∈ t_WS ∧ Cond.instanceMethod (t_MN y) ∈ t_WS ∧ (t_MN y).name = "<init>" ∧ t_RT y = none
/-- constructors of private nested classes: their links are no good words, and are carried along -/
def t_NLl : List (Nat × Nat × Nat) := [(1, 9, 16), (3, 11, 17), (3, 20, 18), (1, 28, 19), (1, 35, 20), (1, 42, 21)]
abbrev mm_iv3 (co x y : Nat) : Prop := mm_mt y ∧ mm_cd y ∧ (co, x, y) ∈ t_NLl ∧ Cond.instanceMethod (t_MN y) ∈ t_WS ∧ (t_MN y).name = "<init>" ∧ t_RT y = none
abbrev mm_iv2 (co x y : Nat) : Prop := mm_mt y ∧ ((t_HD y = [] ∧ mm_cd y) ∨ mm_cdw y) ∧ Cond.methodLink (t_ON co) x (t_MN y) ∈ t_WS ∧ Cond.static (t_MN y) ∈ t_WS
abbrev mm_iv6 (co x : Nat) : Prop := Cond.methodLink (t_ON co) x Lib.Math.min.name ∈ t_WS
abbrev mm_iv7 (co x : Nat) : Prop := Cond.methodLink (t_ON co) x Lib.Math.max.name ∈ t_WS
abbrev mm_iv5 (co x : Nat) : Prop := Cond.methodLink (t_ON co) x Lib.objectInit ∈ t_WS
def mm_iv (q : Nat × Nat × Nat × Nat × Nat) : Prop := (5 ≤ q.2.2.2.1 ∨ t_NA q.2.2.1 = q.2.2.2.2) ∧ (match q.2.2.2.1 with
  | 0 => mm_iv0 q.1 q.2.1 q.2.2.1
  | 1 => mm_iv1 q.1 q.2.1 q.2.2.1
  | 2 => mm_iv2 q.1 q.2.1 q.2.2.1
  | 3 => mm_iv3 q.1 q.2.1 q.2.2.1
  | 5 => mm_iv5 q.1 q.2.1
  | 6 => mm_iv6 q.1 q.2.1
  | 7 => mm_iv7 q.1 q.2.1
  | _ => False)
set_option maxRecDepth 100000 in
theorem iv_0 : mm_iv ((0, 64, 15, 1, 0)) := ⟨Or.inr rfl, (⟨mt_15, cd_15, (mm_ws (mm_inp 83 rfl rfl)), (mm_ws (mm_inp 84 rfl rfl)), rfl, rfl⟩ : mm_iv1 0 64 15)⟩
set_option maxRecDepth 100000 in
theorem iv_1 : mm_iv ((1, 1, 0, 5, 0)) := ⟨Or.inl (by decide), ((mm_ws (mm_inp 86 rfl rfl)) : mm_iv5 1 1)⟩
set_option maxRecDepth 100000 in
theorem iv_2 : mm_iv ((3, 3, 0, 5, 0)) := ⟨Or.inl (by decide), ((mm_ws (mm_inp 94 rfl rfl)) : mm_iv5 3 3)⟩
set_option maxRecDepth 100000 in
theorem iv_3 : mm_iv ((6, 3, 0, 5, 0)) := ⟨Or.inl (by decide), ((mm_ws (mm_inp 100 rfl rfl)) : mm_iv5 6 3)⟩
set_option maxRecDepth 100000 in
theorem iv_4 : mm_iv ((2, 3, 0, 5, 0)) := ⟨Or.inl (by decide), ((mm_ws (mm_inp 130 rfl rfl)) : mm_iv5 2 3)⟩
set_option maxRecDepth 100000 in
theorem iv_5 : mm_iv ((4, 3, 0, 5, 0)) := ⟨Or.inl (by decide), ((mm_ws (mm_inp 217 rfl rfl)) : mm_iv5 4 3)⟩
set_option maxRecDepth 100000 in
theorem iv_6 : mm_iv ((7, 3, 0, 5, 0)) := ⟨Or.inl (by decide), ((mm_ws (mm_inp 237 rfl rfl)) : mm_iv5 7 3)⟩
set_option maxRecDepth 100000 in
theorem iv_7 : mm_iv ((5, 3, 0, 5, 0)) := ⟨Or.inl (by decide), ((mm_ws (mm_inp 263 rfl rfl)) : mm_iv5 5 3)⟩
set_option maxRecDepth 100000 in
theorem iv_8 : mm_iv ((0, 104, 22, 0, 0)) := ⟨Or.inr rfl, (⟨mt_22, cd_22, (mm_ws (mm_inp 294 rfl rfl)), (mm_ws (mm_inp 295 rfl rfl)), (mm_ws (mm_inp 296 rfl rfl))⟩ : mm_iv0 0 104 22)⟩
set_option maxRecDepth 100000 in
theorem iv_9 : mm_iv ((0, 124, 23, 0, 0)) := ⟨Or.inr rfl, (⟨mt_23, cd_23, (mm_ws (mm_inp 298 rfl rfl)), (mm_ws (mm_inp 299 rfl rfl)), (mm_ws (mm_inp 300 rfl rfl))⟩ : mm_iv0 0 124 23)⟩
set_option maxRecDepth 100000 in
theorem iv_10 : mm_iv ((1, 215, 24, 0, 1)) := ⟨Or.inr rfl, (⟨mt_24, cd_24, (mm_ws (mm_inp 302 rfl rfl)), (mm_ws (mm_inp 303 rfl rfl)), (mm_ws (mm_inp 304 rfl rfl))⟩ : mm_iv0 1 215 24)⟩
set_option maxRecDepth 100000 in
theorem iv_11 : mm_iv ((0, 128, 25, 0, 1)) := ⟨Or.inr rfl, (⟨mt_25, cd_25, (mm_ws (mm_inp 306 rfl rfl)), (mm_ws (mm_inp 307 rfl rfl)), (mm_ws (mm_inp 308 rfl rfl))⟩ : mm_iv0 0 128 25)⟩
set_option maxRecDepth 100000 in
theorem iv_12 : mm_iv ((0, 68, 1, 2, 6)) := ⟨Or.inr rfl, (⟨mt_1, Or.inr cd_1, (mm_ws (mm_inp 310 rfl rfl)), (mm_ws (mm_inp 311 rfl rfl))⟩ : mm_iv2 0 68 1)⟩
set_option maxRecDepth 100000 in
theorem iv_13 : mm_iv ((0, 7, 26, 0, 4)) := ⟨Or.inr rfl, (⟨mt_26, cd_26, (mm_ws (mm_inp 314 rfl rfl)), (mm_ws (mm_inp 315 rfl rfl)), (mm_ws (mm_inp 316 rfl rfl))⟩ : mm_iv0 0 7 26)⟩
set_option maxRecDepth 100000 in
theorem iv_14 : mm_iv ((1, 60, 27, 0, 1)) := ⟨Or.inr rfl, (⟨mt_27, cd_27, (mm_ws (mm_inp 386 rfl rfl)), (mm_ws (mm_inp 387 rfl rfl)), (mm_ws (mm_inp 388 rfl rfl))⟩ : mm_iv0 1 60 27)⟩
set_option maxRecDepth 100000 in
theorem iv_15 : mm_iv ((0, 77, 2, 2, 3)) := ⟨Or.inr rfl, (⟨mt_2, Or.inr cd_2, (mm_ws (mm_inp 390 rfl rfl)), (mm_ws (mm_inp 391 rfl rfl))⟩ : mm_iv2 0 77 2)⟩
set_option maxRecDepth 100000 in
theorem iv_16 : mm_iv ((0, 15, 28, 0, 1)) := ⟨Or.inr rfl, (⟨mt_28, cd_28, (mm_ws (mm_inp 394 rfl rfl)), (mm_ws (mm_inp 395 rfl rfl)), (mm_ws (mm_inp 396 rfl rfl))⟩ : mm_iv0 0 15 28)⟩
set_option maxRecDepth 100000 in
theorem iv_17 : mm_iv ((0, 81, 3, 2, 2)) := ⟨Or.inr rfl, (⟨mt_3, Or.inr cd_3, (mm_ws (mm_inp 415 rfl rfl)), (mm_ws (mm_inp 416 rfl rfl))⟩ : mm_iv2 0 81 3)⟩
set_option maxRecDepth 100000 in
theorem iv_18 : mm_iv ((0, 21, 29, 0, 0)) := ⟨Or.inr rfl, (⟨mt_29, cd_29, (mm_ws (mm_inp 418 rfl rfl)), (mm_ws (mm_inp 419 rfl rfl)), (mm_ws (mm_inp 420 rfl rfl))⟩ : mm_iv0 0 21 29)⟩
set_option maxRecDepth 100000 in
theorem iv_19 : mm_iv ((1, 71, 30, 0, 0)) := ⟨Or.inr rfl, (⟨mt_30, cd_30, (mm_ws (mm_inp 422 rfl rfl)), (mm_ws (mm_inp 423 rfl rfl)), (mm_ws (mm_inp 424 rfl rfl))⟩ : mm_iv0 1 71 30)⟩
set_option maxRecDepth 100000 in
theorem iv_20 : mm_iv ((1, 74, 31, 0, 0)) := ⟨Or.inr rfl, (⟨mt_31, cd_31, (mm_ws (mm_inp 426 rfl rfl)), (mm_ws (mm_inp 427 rfl rfl)), (mm_ws (mm_inp 428 rfl rfl))⟩ : mm_iv0 1 74 31)⟩
set_option maxRecDepth 100000 in
theorem iv_21 : mm_iv ((3, 25, 32, 0, 0)) := ⟨Or.inr rfl, (⟨mt_32, cd_32, (mm_ws (mm_inp 430 rfl rfl)), (mm_ws (mm_inp 431 rfl rfl)), (mm_ws (mm_inp 432 rfl rfl))⟩ : mm_iv0 3 25 32)⟩
set_option maxRecDepth 100000 in
theorem iv_22 : mm_iv ((3, 35, 33, 0, 0)) := ⟨Or.inr rfl, (⟨mt_33, cd_33, (mm_ws (mm_inp 434 rfl rfl)), (mm_ws (mm_inp 435 rfl rfl)), (mm_ws (mm_inp 436 rfl rfl))⟩ : mm_iv0 3 35 33)⟩
set_option maxRecDepth 100000 in
theorem iv_23 : mm_iv ((6, 26, 34, 0, 0)) := ⟨Or.inr rfl, (⟨mt_34, cd_34, (mm_ws (mm_inp 438 rfl rfl)), (mm_ws (mm_inp 439 rfl rfl)), (mm_ws (mm_inp 440 rfl rfl))⟩ : mm_iv0 6 26 34)⟩
set_option maxRecDepth 100000 in
theorem iv_24 : mm_iv ((6, 35, 35, 2, 1)) := ⟨Or.inr rfl, (⟨mt_35, Or.inl ⟨rfl, cd_35⟩, (mm_ws (mm_inp 442 rfl rfl)), (mm_ws (mm_inp 443 rfl rfl))⟩ : mm_iv2 6 35 35)⟩
set_option maxRecDepth 100000 in
theorem iv_25 : mm_iv ((6, 39, 36, 2, 1)) := ⟨Or.inr rfl, (⟨mt_36, Or.inl ⟨rfl, cd_36⟩, (mm_ws (mm_inp 445 rfl rfl)), (mm_ws (mm_inp 446 rfl rfl))⟩ : mm_iv2 6 39 36)⟩
set_option maxRecDepth 100000 in
theorem iv_26 : mm_iv ((6, 45, 0, 6, 2)) := ⟨Or.inl (by decide), ((mm_ws (mm_inp 448 rfl rfl)) : mm_iv6 6 45)⟩
set_option maxRecDepth 100000 in
theorem iv_27 : mm_iv ((6, 51, 38, 2, 1)) := ⟨Or.inr rfl, (⟨mt_38, Or.inl ⟨rfl, cd_38⟩, (mm_ws (mm_inp 451 rfl rfl)), (mm_ws (mm_inp 452 rfl rfl))⟩ : mm_iv2 6 51 38)⟩
set_option maxRecDepth 100000 in
theorem iv_28 : mm_iv ((1, 77, 39, 0, 0)) := ⟨Or.inr rfl, (⟨mt_39, cd_39, (mm_ws (mm_inp 454 rfl rfl)), (mm_ws (mm_inp 455 rfl rfl)), (mm_ws (mm_inp 456 rfl rfl))⟩ : mm_iv0 1 77 39)⟩
set_option maxRecDepth 100000 in
theorem iv_29 : mm_iv ((3, 38, 40, 0, 1)) := ⟨Or.inr rfl, (⟨mt_40, cd_40, (mm_ws (mm_inp 458 rfl rfl)), (mm_ws (mm_inp 459 rfl rfl)), (mm_ws (mm_inp 460 rfl rfl))⟩ : mm_iv0 3 38 40)⟩
set_option maxRecDepth 100000 in
theorem iv_30 : mm_iv ((3, 42, 41, 0, 0)) := ⟨Or.inr rfl, (⟨mt_41, cd_41, (mm_ws (mm_inp 462 rfl rfl)), (mm_ws (mm_inp 464 rfl rfl)), (mm_ws (mm_inp 1 rfl rfl))⟩ : mm_iv0 3 42 41)⟩
set_option maxRecDepth 100000 in
theorem iv_31 : mm_iv ((3, 62, 34, 0, 0)) := ⟨Or.inr rfl, (⟨mt_34, cd_34, (mm_ws (mm_inp 466 rfl rfl)), (mm_ws (mm_inp 439 rfl rfl)), (mm_ws (mm_inp 440 rfl rfl))⟩ : mm_iv0 3 62 34)⟩
set_option maxRecDepth 100000 in
theorem iv_32 : mm_iv ((3, 65, 42, 0, 1)) := ⟨Or.inr rfl, (⟨mt_42, cd_42, (mm_ws (mm_inp 467 rfl rfl)), (mm_ws (mm_inp 469 rfl rfl)), (mm_ws (mm_inp 2 rfl rfl))⟩ : mm_iv0 3 65 42)⟩
set_option maxRecDepth 100000 in
theorem iv_33 : mm_iv ((3, 113, 43, 0, 1)) := ⟨Or.inr rfl, (⟨mt_43, cd_43, (mm_ws (mm_inp 471 rfl rfl)), (mm_ws (mm_inp 472 rfl rfl)), (mm_ws (mm_inp 473 rfl rfl))⟩ : mm_iv0 3 113 43)⟩
set_option maxRecDepth 100000 in
theorem iv_34 : mm_iv ((3, 49, 44, 0, 0)) := ⟨Or.inr rfl, (⟨mt_44, cd_44, (mm_ws (mm_inp 475 rfl rfl)), (mm_ws (mm_inp 477 rfl rfl)), (mm_ws (mm_inp 3 rfl rfl))⟩ : mm_iv0 3 49 44)⟩
set_option maxRecDepth 100000 in
theorem iv_35 : mm_iv ((3, 58, 45, 0, 2)) := ⟨Or.inr rfl, (⟨mt_45, cd_45, (mm_ws (mm_inp 479 rfl rfl)), (mm_ws (mm_inp 481 rfl rfl)), (mm_ws (mm_inp 4 rfl rfl))⟩ : mm_iv0 3 58 45)⟩
set_option maxRecDepth 100000 in
theorem iv_36 : mm_iv ((3, 69, 46, 0, 0)) := ⟨Or.inr rfl, (⟨mt_46, cd_46, (mm_ws (mm_inp 483 rfl rfl)), (mm_ws (mm_inp 485 rfl rfl)), (mm_ws (mm_inp 5 rfl rfl))⟩ : mm_iv0 3 69 46)⟩
set_option maxRecDepth 100000 in
theorem iv_37 : mm_iv ((3, 82, 47, 0, 1)) := ⟨Or.inr rfl, (⟨mt_47, cd_47, (mm_ws (mm_inp 488 rfl rfl)), (mm_ws (mm_inp 489 rfl rfl)), (mm_ws (mm_inp 490 rfl rfl))⟩ : mm_iv0 3 82 47)⟩
set_option maxRecDepth 100000 in
theorem iv_38 : mm_iv ((6, 54, 48, 0, 0)) := ⟨Or.inr rfl, (⟨mt_48, cd_48, (mm_ws (mm_inp 492 rfl rfl)), (mm_ws (mm_inp 493 rfl rfl)), (mm_ws (mm_inp 494 rfl rfl))⟩ : mm_iv0 6 54 48)⟩
set_option maxRecDepth 100000 in
theorem iv_39 : mm_iv ((9, 335, 49, 0, 0)) := ⟨Or.inr rfl, (⟨mt_49, cd_49, (mm_ws (mm_inp 496 rfl rfl)), (mm_ws (mm_inp 497 rfl rfl)), (mm_ws (mm_inp 498 rfl rfl))⟩ : mm_iv0 9 335 49)⟩
set_option maxRecDepth 100000 in
theorem iv_40 : mm_iv ((6, 59, 50, 0, 1)) := ⟨Or.inr rfl, (⟨mt_50, cd_50, (mm_ws (mm_inp 502 rfl rfl)), (mm_ws (mm_inp 503 rfl rfl)), (mm_ws (mm_inp 504 rfl rfl))⟩ : mm_iv0 6 59 50)⟩
set_option maxRecDepth 100000 in
theorem iv_41 : mm_iv ((9, 492, 51, 0, 0)) := ⟨Or.inr rfl, (⟨mt_51, cd_51, (mm_ws (mm_inp 506 rfl rfl)), (mm_ws (mm_inp 507 rfl rfl)), (mm_ws (mm_inp 508 rfl rfl))⟩ : mm_iv0 9 492 51)⟩
set_option maxRecDepth 100000 in
theorem iv_42 : mm_iv ((9, 495, 52, 2, 2)) := ⟨Or.inr rfl, (⟨mt_52, Or.inl ⟨rfl, cd_52⟩, (mm_ws (mm_inp 510 rfl rfl)), (mm_ws (mm_inp 511 rfl rfl))⟩ : mm_iv2 9 495 52)⟩
set_option maxRecDepth 100000 in
theorem iv_43 : mm_iv ((10, 9, 53, 2, 2)) := ⟨Or.inr rfl, (⟨mt_53, Or.inl ⟨rfl, cd_53⟩, (mm_ws (mm_inp 513 rfl rfl)), (mm_ws (mm_inp 514 rfl rfl))⟩ : mm_iv2 10 9 53)⟩
set_option maxRecDepth 100000 in
theorem iv_44 : mm_iv ((9, 1059, 54, 2, 3)) := ⟨Or.inr rfl, (⟨mt_54, Or.inl ⟨rfl, cd_54⟩, (mm_ws (mm_inp 518 rfl rfl)), (mm_ws (mm_inp 519 rfl rfl))⟩ : mm_iv2 9 1059 54)⟩
set_option maxRecDepth 100000 in
theorem iv_45 : mm_iv ((3, 76, 55, 0, 1)) := ⟨Or.inr rfl, (⟨mt_55, cd_55, (mm_ws (mm_inp 542 rfl rfl)), (mm_ws (mm_inp 544 rfl rfl)), (mm_ws (mm_inp 6 rfl rfl))⟩ : mm_iv0 3 76 55)⟩
set_option maxRecDepth 100000 in
theorem iv_46 : mm_iv ((3, 90, 56, 0, 3)) := ⟨Or.inr rfl, (⟨mt_56, cd_56, (mm_ws (mm_inp 546 rfl rfl)), (mm_ws (mm_inp 547 rfl rfl)), (mm_ws (mm_inp 548 rfl rfl))⟩ : mm_iv0 3 90 56)⟩
set_option maxRecDepth 100000 in
theorem iv_47 : mm_iv ((2, 46, 57, 0, 5)) := ⟨Or.inr rfl, (⟨mt_57, cd_57, (mm_ws (mm_inp 550 rfl rfl)), (mm_ws (mm_inp 552 rfl rfl)), (mm_ws (mm_inp 7 rfl rfl))⟩ : mm_iv0 2 46 57)⟩
set_option maxRecDepth 100000 in
theorem iv_48 : mm_iv ((3, 94, 58, 0, 0)) := ⟨Or.inr rfl, (⟨mt_58, cd_58, (mm_ws (mm_inp 554 rfl rfl)), (mm_ws (mm_inp 555 rfl rfl)), (mm_ws (mm_inp 556 rfl rfl))⟩ : mm_iv0 3 94 58)⟩
set_option maxRecDepth 100000 in
theorem iv_49 : mm_iv ((3, 97, 59, 0, 0)) := ⟨Or.inr rfl, (⟨mt_59, cd_59, (mm_ws (mm_inp 558 rfl rfl)), (mm_ws (mm_inp 560 rfl rfl)), (mm_ws (mm_inp 8 rfl rfl))⟩ : mm_iv0 3 97 59)⟩
set_option maxRecDepth 100000 in
theorem iv_50 : mm_iv ((3, 46, 60, 0, 0)) := ⟨Or.inr rfl, (⟨mt_60, cd_60, (mm_ws (mm_inp 562 rfl rfl)), (mm_ws (mm_inp 563 rfl rfl)), (mm_ws (mm_inp 564 rfl rfl))⟩ : mm_iv0 3 46 60)⟩
set_option maxRecDepth 100000 in
theorem iv_51 : mm_iv ((1, 81, 61, 0, 0)) := ⟨Or.inr rfl, (⟨mt_61, cd_61, (mm_ws (mm_inp 566 rfl rfl)), (mm_ws (mm_inp 567 rfl rfl)), (mm_ws (mm_inp 568 rfl rfl))⟩ : mm_iv0 1 81 61)⟩
set_option maxRecDepth 100000 in
theorem iv_52 : mm_iv ((3, 110, 62, 0, 0)) := ⟨Or.inr rfl, (⟨mt_62, cd_62, (mm_ws (mm_inp 572 rfl rfl)), (mm_ws (mm_inp 574 rfl rfl)), (mm_ws (mm_inp 9 rfl rfl))⟩ : mm_iv0 3 110 62)⟩
set_option maxRecDepth 100000 in
theorem iv_53 : mm_iv ((3, 119, 63, 0, 1)) := ⟨Or.inr rfl, (⟨mt_63, cd_63, (mm_ws (mm_inp 576 rfl rfl)), (mm_ws (mm_inp 578 rfl rfl)), (mm_ws (mm_inp 10 rfl rfl))⟩ : mm_iv0 3 119 63)⟩
set_option maxRecDepth 100000 in
theorem iv_54 : mm_iv ((3, 125, 64, 0, 2)) := ⟨Or.inr rfl, (⟨mt_64, cd_64, (mm_ws (mm_inp 580 rfl rfl)), (mm_ws (mm_inp 581 rfl rfl)), (mm_ws (mm_inp 582 rfl rfl))⟩ : mm_iv0 3 125 64)⟩
set_option maxRecDepth 100000 in
theorem iv_55 : mm_iv ((3, 122, 65, 0, 3)) := ⟨Or.inr rfl, (⟨mt_65, cd_65, (mm_ws (mm_inp 584 rfl rfl)), (mm_ws (mm_inp 585 rfl rfl)), (mm_ws (mm_inp 586 rfl rfl))⟩ : mm_iv0 3 122 65)⟩
set_option maxRecDepth 100000 in
theorem iv_56 : mm_iv ((1, 84, 66, 0, 0)) := ⟨Or.inr rfl, (⟨mt_66, cd_66, (mm_ws (mm_inp 588 rfl rfl)), (mm_ws (mm_inp 589 rfl rfl)), (mm_ws (mm_inp 590 rfl rfl))⟩ : mm_iv0 1 84 66)⟩
set_option maxRecDepth 100000 in
theorem iv_57 : mm_iv ((1, 87, 32, 0, 0)) := ⟨Or.inr rfl, (⟨mt_32, cd_32, (mm_ws (mm_inp 592 rfl rfl)), (mm_ws (mm_inp 431 rfl rfl)), (mm_ws (mm_inp 432 rfl rfl))⟩ : mm_iv0 1 87 32)⟩
set_option maxRecDepth 100000 in
theorem iv_58 : mm_iv ((0, 85, 4, 2, 3)) := ⟨Or.inr rfl, (⟨mt_4, Or.inr cd_4, (mm_ws (mm_inp 594 rfl rfl)), (mm_ws (mm_inp 595 rfl rfl))⟩ : mm_iv2 0 85 4)⟩
set_option maxRecDepth 100000 in
theorem iv_59 : mm_iv ((0, 25, 67, 0, 1)) := ⟨Or.inr rfl, (⟨mt_67, cd_67, (mm_ws (mm_inp 598 rfl rfl)), (mm_ws (mm_inp 599 rfl rfl)), (mm_ws (mm_inp 600 rfl rfl))⟩ : mm_iv0 0 25 67)⟩
set_option maxRecDepth 100000 in
theorem iv_60 : mm_iv ((0, 88, 5, 2, 3)) := ⟨Or.inr rfl, (⟨mt_5, Or.inr cd_5, (mm_ws (mm_inp 618 rfl rfl)), (mm_ws (mm_inp 619 rfl rfl))⟩ : mm_iv2 0 88 5)⟩
set_option maxRecDepth 100000 in
theorem iv_61 : mm_iv ((0, 30, 68, 0, 1)) := ⟨Or.inr rfl, (⟨mt_68, cd_68, (mm_ws (mm_inp 622 rfl rfl)), (mm_ws (mm_inp 623 rfl rfl)), (mm_ws (mm_inp 624 rfl rfl))⟩ : mm_iv0 0 30 68)⟩
set_option maxRecDepth 100000 in
theorem iv_62 : mm_iv ((1, 118, 69, 0, 1)) := ⟨Or.inr rfl, (⟨mt_69, cd_69, (mm_ws (mm_inp 643 rfl rfl)), (mm_ws (mm_inp 644 rfl rfl)), (mm_ws (mm_inp 645 rfl rfl))⟩ : mm_iv0 1 118 69)⟩
set_option maxRecDepth 100000 in
theorem iv_63 : mm_iv ((0, 91, 6, 2, 2)) := ⟨Or.inr rfl, (⟨mt_6, Or.inr cd_6, (mm_ws (mm_inp 647 rfl rfl)), (mm_ws (mm_inp 648 rfl rfl))⟩ : mm_iv2 0 91 6)⟩
set_option maxRecDepth 100000 in
theorem iv_64 : mm_iv ((0, 35, 70, 0, 0)) := ⟨Or.inr rfl, (⟨mt_70, cd_70, (mm_ws (mm_inp 650 rfl rfl)), (mm_ws (mm_inp 651 rfl rfl)), (mm_ws (mm_inp 652 rfl rfl))⟩ : mm_iv0 0 35 70)⟩
set_option maxRecDepth 100000 in
theorem iv_65 : mm_iv ((1, 121, 71, 0, 0)) := ⟨Or.inr rfl, (⟨mt_71, cd_71, (mm_ws (mm_inp 654 rfl rfl)), (mm_ws (mm_inp 655 rfl rfl)), (mm_ws (mm_inp 656 rfl rfl))⟩ : mm_iv0 1 121 71)⟩
set_option maxRecDepth 100000 in
theorem iv_66 : mm_iv ((4, 31, 72, 0, 1)) := ⟨Or.inr rfl, (⟨mt_72, cd_72, (mm_ws (mm_inp 662 rfl rfl)), (mm_ws (mm_inp 664 rfl rfl)), (mm_ws (mm_inp 11 rfl rfl))⟩ : mm_iv0 4 31 72)⟩
set_option maxRecDepth 100000 in
theorem iv_67 : mm_iv ((1, 124, 73, 0, 1)) := ⟨Or.inr rfl, (⟨mt_73, cd_73, (mm_ws (mm_inp 666 rfl rfl)), (mm_ws (mm_inp 667 rfl rfl)), (mm_ws (mm_inp 668 rfl rfl))⟩ : mm_iv0 1 124 73)⟩
set_option maxRecDepth 100000 in
theorem iv_68 : mm_iv ((4, 35, 74, 0, 0)) := ⟨Or.inr rfl, (⟨mt_74, cd_74, (mm_ws (mm_inp 670 rfl rfl)), (mm_ws (mm_inp 672 rfl rfl)), (mm_ws (mm_inp 12 rfl rfl))⟩ : mm_iv0 4 35 74)⟩
set_option maxRecDepth 100000 in
theorem iv_69 : mm_iv ((4, 65, 0, 6, 2)) := ⟨Or.inl (by decide), ((mm_ws (mm_inp 674 rfl rfl)) : mm_iv6 4 65)⟩
set_option maxRecDepth 100000 in
theorem iv_70 : mm_iv ((4, 39, 75, 0, 1)) := ⟨Or.inr rfl, (⟨mt_75, cd_75, (mm_ws (mm_inp 675 rfl rfl)), (mm_ws (mm_inp 677 rfl rfl)), (mm_ws (mm_inp 13 rfl rfl))⟩ : mm_iv0 4 39 75)⟩
set_option maxRecDepth 100000 in
theorem iv_71 : mm_iv ((4, 71, 76, 0, 0)) := ⟨Or.inr rfl, (⟨mt_76, cd_76, (mm_ws (mm_inp 679 rfl rfl)), (mm_ws (mm_inp 681 rfl rfl)), (mm_ws (mm_inp 14 rfl rfl))⟩ : mm_iv0 4 71 76)⟩
set_option maxRecDepth 100000 in
theorem iv_72 : mm_iv ((4, 74, 0, 7, 2)) := ⟨Or.inl (by decide), ((mm_ws (mm_inp 683 rfl rfl)) : mm_iv7 4 74)⟩
set_option maxRecDepth 100000 in
theorem iv_73 : mm_iv ((4, 43, 32, 0, 0)) := ⟨Or.inr rfl, (⟨mt_32, cd_32, (mm_ws (mm_inp 686 rfl rfl)), (mm_ws (mm_inp 431 rfl rfl)), (mm_ws (mm_inp 432 rfl rfl))⟩ : mm_iv0 4 43 32)⟩
set_option maxRecDepth 100000 in
theorem iv_74 : mm_iv ((4, 48, 78, 0, 2)) := ⟨Or.inr rfl, (⟨mt_78, cd_78, (mm_ws (mm_inp 687 rfl rfl)), (mm_ws (mm_inp 689 rfl rfl)), (mm_ws (mm_inp 15 rfl rfl))⟩ : mm_iv0 4 48 78)⟩
set_option maxRecDepth 100000 in
theorem iv_75 : mm_iv ((4, 80, 56, 0, 3)) := ⟨Or.inr rfl, (⟨mt_56, cd_56, (mm_ws (mm_inp 691 rfl rfl)), (mm_ws (mm_inp 547 rfl rfl)), (mm_ws (mm_inp 548 rfl rfl))⟩ : mm_iv0 4 80 56)⟩
set_option maxRecDepth 100000 in
theorem iv_76 : mm_iv ((4, 52, 79, 0, 1)) := ⟨Or.inr rfl, (⟨mt_79, cd_79, (mm_ws (mm_inp 692 rfl rfl)), (mm_ws (mm_inp 694 rfl rfl)), (mm_ws (mm_inp 16 rfl rfl))⟩ : mm_iv0 4 52 79)⟩
set_option maxRecDepth 100000 in
theorem iv_77 : mm_iv ((4, 84, 65, 0, 3)) := ⟨Or.inr rfl, (⟨mt_65, cd_65, (mm_ws (mm_inp 696 rfl rfl)), (mm_ws (mm_inp 585 rfl rfl)), (mm_ws (mm_inp 586 rfl rfl))⟩ : mm_iv0 4 84 65)⟩
set_option maxRecDepth 100000 in
theorem iv_78 : mm_iv ((4, 56, 80, 0, 2)) := ⟨Or.inr rfl, (⟨mt_80, cd_80, (mm_ws (mm_inp 697 rfl rfl)), (mm_ws (mm_inp 699 rfl rfl)), (mm_ws (mm_inp 17 rfl rfl))⟩ : mm_iv0 4 56 80)⟩
set_option maxRecDepth 100000 in
theorem iv_79 : mm_iv ((0, 94, 7, 2, 4)) := ⟨Or.inr rfl, (⟨mt_7, Or.inr cd_7, (mm_ws (mm_inp 702 rfl rfl)), (mm_ws (mm_inp 703 rfl rfl))⟩ : mm_iv2 0 94 7)⟩
set_option maxRecDepth 100000 in
theorem iv_80 : mm_iv ((0, 38, 81, 0, 2)) := ⟨Or.inr rfl, (⟨mt_81, cd_81, (mm_ws (mm_inp 705 rfl rfl)), (mm_ws (mm_inp 706 rfl rfl)), (mm_ws (mm_inp 707 rfl rfl))⟩ : mm_iv0 0 38 81)⟩
set_option maxRecDepth 100000 in
theorem iv_81 : mm_iv ((0, 98, 8, 2, 4)) := ⟨Or.inr rfl, (⟨mt_8, Or.inr cd_8, (mm_ws (mm_inp 710 rfl rfl)), (mm_ws (mm_inp 711 rfl rfl))⟩ : mm_iv2 0 98 8)⟩
set_option maxRecDepth 100000 in
theorem iv_82 : mm_iv ((0, 42, 82, 0, 2)) := ⟨Or.inr rfl, (⟨mt_82, cd_82, (mm_ws (mm_inp 713 rfl rfl)), (mm_ws (mm_inp 714 rfl rfl)), (mm_ws (mm_inp 715 rfl rfl))⟩ : mm_iv0 0 42 82)⟩
set_option maxRecDepth 100000 in
theorem iv_83 : mm_iv ((0, 101, 9, 2, 2)) := ⟨Or.inr rfl, (⟨mt_9, Or.inr cd_9, (mm_ws (mm_inp 718 rfl rfl)), (mm_ws (mm_inp 719 rfl rfl))⟩ : mm_iv2 0 101 9)⟩
set_option maxRecDepth 100000 in
theorem iv_84 : mm_iv ((0, 45, 83, 0, 0)) := ⟨Or.inr rfl, (⟨mt_83, cd_83, (mm_ws (mm_inp 721 rfl rfl)), (mm_ws (mm_inp 722 rfl rfl)), (mm_ws (mm_inp 723 rfl rfl))⟩ : mm_iv0 0 45 83)⟩
set_option maxRecDepth 100000 in
theorem iv_85 : mm_iv ((1, 159, 84, 0, 0)) := ⟨Or.inr rfl, (⟨mt_84, cd_84, (mm_ws (mm_inp 725 rfl rfl)), (mm_ws (mm_inp 726 rfl rfl)), (mm_ws (mm_inp 727 rfl rfl))⟩ : mm_iv0 1 159 84)⟩
set_option maxRecDepth 100000 in
theorem iv_86 : mm_iv ((2, 50, 85, 0, 1)) := ⟨Or.inr rfl, (⟨mt_85, cd_85, (mm_ws (mm_inp 729 rfl rfl)), (mm_ws (mm_inp 731 rfl rfl)), (mm_ws (mm_inp 18 rfl rfl))⟩ : mm_iv0 2 50 85)⟩
set_option maxRecDepth 100000 in
theorem iv_87 : mm_iv ((1, 163, 60, 0, 0)) := ⟨Or.inr rfl, (⟨mt_60, cd_60, (mm_ws (mm_inp 733 rfl rfl)), (mm_ws (mm_inp 563 rfl rfl)), (mm_ws (mm_inp 564 rfl rfl))⟩ : mm_iv0 1 163 60)⟩
set_option maxRecDepth 100000 in
theorem iv_88 : mm_iv ((1, 168, 86, 0, 1)) := ⟨Or.inr rfl, (⟨mt_86, cd_86, (mm_ws (mm_inp 735 rfl rfl)), (mm_ws (mm_inp 736 rfl rfl)), (mm_ws (mm_inp 737 rfl rfl))⟩ : mm_iv0 1 168 86)⟩
set_option maxRecDepth 100000 in
theorem iv_89 : mm_iv ((0, 108, 10, 2, 3)) := ⟨Or.inr rfl, (⟨mt_10, Or.inr cd_10, (mm_ws (mm_inp 739 rfl rfl)), (mm_ws (mm_inp 740 rfl rfl))⟩ : mm_iv2 0 108 10)⟩
set_option maxRecDepth 100000 in
theorem iv_90 : mm_iv ((0, 48, 87, 0, 1)) := ⟨Or.inr rfl, (⟨mt_87, cd_87, (mm_ws (mm_inp 742 rfl rfl)), (mm_ws (mm_inp 743 rfl rfl)), (mm_ws (mm_inp 744 rfl rfl))⟩ : mm_iv0 0 48 87)⟩
set_option maxRecDepth 100000 in
theorem iv_91 : mm_iv ((1, 175, 88, 0, 1)) := ⟨Or.inr rfl, (⟨mt_88, cd_88, (mm_ws (mm_inp 747 rfl rfl)), (mm_ws (mm_inp 748 rfl rfl)), (mm_ws (mm_inp 749 rfl rfl))⟩ : mm_iv0 1 175 88)⟩
set_option maxRecDepth 100000 in
theorem iv_92 : mm_iv ((7, 28, 89, 0, 1)) := ⟨Or.inr rfl, (⟨mt_89, cd_89, (mm_ws (mm_inp 751 rfl rfl)), (mm_ws (mm_inp 753 rfl rfl)), (mm_ws (mm_inp 19 rfl rfl))⟩ : mm_iv0 7 28 89)⟩
set_option maxRecDepth 100000 in
theorem iv_93 : mm_iv ((7, 32, 90, 0, 0)) := ⟨Or.inr rfl, (⟨mt_90, cd_90, (mm_ws (mm_inp 755 rfl rfl)), (mm_ws (mm_inp 757 rfl rfl)), (mm_ws (mm_inp 20 rfl rfl))⟩ : mm_iv0 7 32 90)⟩
set_option maxRecDepth 100000 in
theorem iv_94 : mm_iv ((0, 112, 11, 2, 3)) := ⟨Or.inr rfl, (⟨mt_11, Or.inr cd_11, (mm_ws (mm_inp 759 rfl rfl)), (mm_ws (mm_inp 760 rfl rfl))⟩ : mm_iv2 0 112 11)⟩
set_option maxRecDepth 100000 in
theorem iv_95 : mm_iv ((0, 52, 91, 0, 1)) := ⟨Or.inr rfl, (⟨mt_91, cd_91, (mm_ws (mm_inp 762 rfl rfl)), (mm_ws (mm_inp 763 rfl rfl)), (mm_ws (mm_inp 764 rfl rfl))⟩ : mm_iv0 0 52 91)⟩
set_option maxRecDepth 100000 in
theorem iv_96 : mm_iv ((0, 115, 12, 2, 3)) := ⟨Or.inr rfl, (⟨mt_12, Or.inr cd_12, (mm_ws (mm_inp 767 rfl rfl)), (mm_ws (mm_inp 768 rfl rfl))⟩ : mm_iv2 0 115 12)⟩
set_option maxRecDepth 100000 in
theorem iv_97 : mm_iv ((0, 55, 92, 0, 1)) := ⟨Or.inr rfl, (⟨mt_92, cd_92, (mm_ws (mm_inp 770 rfl rfl)), (mm_ws (mm_inp 771 rfl rfl)), (mm_ws (mm_inp 772 rfl rfl))⟩ : mm_iv0 0 55 92)⟩
set_option maxRecDepth 100000 in
theorem iv_98 : mm_iv ((1, 189, 93, 2, 1)) := ⟨Or.inr rfl, (⟨mt_93, Or.inl ⟨rfl, cd_93⟩, (mm_ws (mm_inp 775 rfl rfl)), (mm_ws (mm_inp 776 rfl rfl))⟩ : mm_iv2 1 189 93)⟩
set_option maxRecDepth 100000 in
theorem iv_99 : mm_iv ((1, 197, 94, 0, 1)) := ⟨Or.inr rfl, (⟨mt_94, cd_94, (mm_ws (mm_inp 782 rfl rfl)), (mm_ws (mm_inp 783 rfl rfl)), (mm_ws (mm_inp 784 rfl rfl))⟩ : mm_iv0 1 197 94)⟩
set_option maxRecDepth 100000 in
theorem iv_100 : mm_iv ((2, 54, 84, 0, 0)) := ⟨Or.inr rfl, (⟨mt_84, cd_84, (mm_ws (mm_inp 786 rfl rfl)), (mm_ws (mm_inp 726 rfl rfl)), (mm_ws (mm_inp 727 rfl rfl))⟩ : mm_iv0 2 54 84)⟩
set_option maxRecDepth 100000 in
theorem iv_101 : mm_iv ((2, 58, 95, 0, 1)) := ⟨Or.inr rfl, (⟨mt_95, cd_95, (mm_ws (mm_inp 787 rfl rfl)), (mm_ws (mm_inp 789 rfl rfl)), (mm_ws (mm_inp 21 rfl rfl))⟩ : mm_iv0 2 58 95)⟩
set_option maxRecDepth 100000 in
theorem iv_102 : mm_iv ((1, 200, 96, 0, 0)) := ⟨Or.inr rfl, (⟨mt_96, cd_96, (mm_ws (mm_inp 791 rfl rfl)), (mm_ws (mm_inp 792 rfl rfl)), (mm_ws (mm_inp 793 rfl rfl))⟩ : mm_iv0 1 200 96)⟩
set_option maxRecDepth 100000 in
theorem iv_103 : mm_iv ((0, 118, 13, 2, 2)) := ⟨Or.inr rfl, (⟨mt_13, Or.inr cd_13, (mm_ws (mm_inp 795 rfl rfl)), (mm_ws (mm_inp 796 rfl rfl))⟩ : mm_iv2 0 118 13)⟩
set_option maxRecDepth 100000 in
theorem iv_104 : mm_iv ((0, 58, 97, 0, 0)) := ⟨Or.inr rfl, (⟨mt_97, cd_97, (mm_ws (mm_inp 798 rfl rfl)), (mm_ws (mm_inp 799 rfl rfl)), (mm_ws (mm_inp 800 rfl rfl))⟩ : mm_iv0 0 58 97)⟩
set_option maxRecDepth 100000 in
theorem iv_105 : mm_iv ((1, 205, 98, 0, 1)) := ⟨Or.inr rfl, (⟨mt_98, cd_98, (mm_ws (mm_inp 803 rfl rfl)), (mm_ws (mm_inp 804 rfl rfl)), (mm_ws (mm_inp 805 rfl rfl))⟩ : mm_iv0 1 205 98)⟩
set_option maxRecDepth 100000 in
theorem iv_106 : mm_iv ((5, 24, 99, 0, 2)) := ⟨Or.inr rfl, (⟨mt_99, cd_99, (mm_ws (mm_inp 807 rfl rfl)), (mm_ws (mm_inp 809 rfl rfl)), (mm_ws (mm_inp 22 rfl rfl))⟩ : mm_iv0 5 24 99)⟩
set_option maxRecDepth 100000 in
theorem iv_107 : mm_iv ((5, 28, 100, 0, 1)) := ⟨Or.inr rfl, (⟨mt_100, cd_100, (mm_ws (mm_inp 811 rfl rfl)), (mm_ws (mm_inp 813 rfl rfl)), (mm_ws (mm_inp 23 rfl rfl))⟩ : mm_iv0 5 28 100)⟩
set_option maxRecDepth 100000 in
theorem iv_108 : mm_iv ((5, 48, 101, 0, 3)) := ⟨Or.inr rfl, (⟨mt_101, cd_101, (mm_ws (mm_inp 815 rfl rfl)), (mm_ws (mm_inp 817 rfl rfl)), (mm_ws (mm_inp 24 rfl rfl))⟩ : mm_iv0 5 48 101)⟩
set_option maxRecDepth 100000 in
theorem iv_109 : mm_iv ((5, 61, 102, 0, 1)) := ⟨Or.inr rfl, (⟨mt_102, cd_102, (mm_ws (mm_inp 820 rfl rfl)), (mm_ws (mm_inp 822 rfl rfl)), (mm_ws (mm_inp 25 rfl rfl))⟩ : mm_iv0 5 61 102)⟩
set_option maxRecDepth 100000 in
theorem iv_110 : mm_iv ((5, 94, 48, 0, 0)) := ⟨Or.inr rfl, (⟨mt_48, cd_48, (mm_ws (mm_inp 824 rfl rfl)), (mm_ws (mm_inp 493 rfl rfl)), (mm_ws (mm_inp 494 rfl rfl))⟩ : mm_iv0 5 94 48)⟩
set_option maxRecDepth 100000 in
theorem iv_111 : mm_iv ((5, 99, 50, 0, 1)) := ⟨Or.inr rfl, (⟨mt_50, cd_50, (mm_ws (mm_inp 825 rfl rfl)), (mm_ws (mm_inp 503 rfl rfl)), (mm_ws (mm_inp 504 rfl rfl))⟩ : mm_iv0 5 99 50)⟩
set_option maxRecDepth 100000 in
theorem iv_112 : mm_iv ((5, 69, 103, 0, 1)) := ⟨Or.inr rfl, (⟨mt_103, cd_103, (mm_ws (mm_inp 828 rfl rfl)), (mm_ws (mm_inp 830 rfl rfl)), (mm_ws (mm_inp 26 rfl rfl))⟩ : mm_iv0 5 69 103)⟩
set_option maxRecDepth 100000 in
theorem iv_113 : mm_iv ((5, 55, 104, 0, 1)) := ⟨Or.inr rfl, (⟨mt_104, cd_104, (mm_ws (mm_inp 832 rfl rfl)), (mm_ws (mm_inp 834 rfl rfl)), (mm_ws (mm_inp 27 rfl rfl))⟩ : mm_iv0 5 55 104)⟩
set_option maxRecDepth 100000 in
theorem iv_114 : mm_iv ((0, 121, 14, 2, 3)) := ⟨Or.inr rfl, (⟨mt_14, Or.inr cd_14, (mm_ws (mm_inp 841 rfl rfl)), (mm_ws (mm_inp 842 rfl rfl))⟩ : mm_iv2 0 121 14)⟩
set_option maxRecDepth 100000 in
theorem iv_115 : mm_iv ((0, 61, 105, 0, 1)) := ⟨Or.inr rfl, (⟨mt_105, cd_105, (mm_ws (mm_inp 844 rfl rfl)), (mm_ws (mm_inp 845 rfl rfl)), (mm_ws (mm_inp 846 rfl rfl))⟩ : mm_iv0 0 61 105)⟩
set_option maxRecDepth 100000 in
theorem iv_116 : mm_iv ((0, 67, 106, 1, 0)) := ⟨Or.inr rfl, (⟨mt_106, cd_106, (mm_ws (mm_inp 851 rfl rfl)), (mm_ws (mm_inp 852 rfl rfl)), rfl, rfl⟩ : mm_iv1 0 67 106)⟩
set_option maxRecDepth 100000 in
theorem iv_117 : mm_iv ((8, 1, 0, 5, 0)) := ⟨Or.inl (by decide), ((mm_ws (mm_inp 854 rfl rfl)) : mm_iv5 8 1)⟩
set_option maxRecDepth 100000 in
theorem iv_118 : mm_iv ((0, 74, 107, 0, 0)) := ⟨Or.inr rfl, (⟨mt_107, cd_107, (mm_ws (mm_inp 964 rfl rfl)), (mm_ws (mm_inp 965 rfl rfl)), (mm_ws (mm_inp 966 rfl rfl))⟩ : mm_iv0 0 74 107)⟩
set_option maxRecDepth 100000 in
theorem iv_119 : mm_iv ((0, 73, 108, 0, 4)) := ⟨Or.inr rfl, (⟨mt_108, cd_108, (mm_ws (mm_inp 968 rfl rfl)), (mm_ws (mm_inp 969 rfl rfl)), (mm_ws (mm_inp 970 rfl rfl))⟩ : mm_iv0 0 73 108)⟩
set_option maxRecDepth 100000 in
theorem iv_120 : mm_iv ((8, 65, 109, 0, 1)) := ⟨Or.inr rfl, (⟨mt_109, cd_109, (mm_ws (mm_inp 972 rfl rfl)), (mm_ws (mm_inp 974 rfl rfl)), (mm_ws (mm_inp 28 rfl rfl))⟩ : mm_iv0 8 65 109)⟩
set_option maxRecDepth 100000 in
theorem iv_121 : mm_iv ((0, 80, 110, 0, 1)) := ⟨Or.inr rfl, (⟨mt_110, cd_110, (mm_ws (mm_inp 976 rfl rfl)), (mm_ws (mm_inp 977 rfl rfl)), (mm_ws (mm_inp 978 rfl rfl))⟩ : mm_iv0 0 80 110)⟩
set_option maxRecDepth 100000 in
theorem iv_122 : mm_iv ((8, 69, 111, 2, 3)) := ⟨Or.inr rfl, (⟨mt_111, Or.inl ⟨rfl, cd_111⟩, (mm_ws (mm_inp 980 rfl rfl)), (mm_ws (mm_inp 981 rfl rfl))⟩ : mm_iv2 8 69 111)⟩
set_option maxRecDepth 100000 in
theorem iv_123 : mm_iv ((0, 84, 112, 0, 0)) := ⟨Or.inr rfl, (⟨mt_112, cd_112, (mm_ws (mm_inp 983 rfl rfl)), (mm_ws (mm_inp 984 rfl rfl)), (mm_ws (mm_inp 985 rfl rfl))⟩ : mm_iv0 0 84 112)⟩
set_option maxRecDepth 100000 in
theorem iv_124 : mm_iv ((8, 177, 113, 0, 0)) := ⟨Or.inr rfl, (⟨mt_113, cd_113, (mm_ws (mm_inp 987 rfl rfl)), (mm_ws (mm_inp 989 rfl rfl)), (mm_ws (mm_inp 29 rfl rfl))⟩ : mm_iv0 8 177 113)⟩
set_option maxRecDepth 100000 in
theorem iv_125 : mm_iv ((8, 180, 114, 0, 0)) := ⟨Or.inr rfl, (⟨mt_114, cd_114, (mm_ws (mm_inp 991 rfl rfl)), (mm_ws (mm_inp 993 rfl rfl)), (mm_ws (mm_inp 30 rfl rfl))⟩ : mm_iv0 8 180 114)⟩
set_option maxRecDepth 100000 in
theorem iv_126 : mm_iv ((8, 108, 115, 0, 0)) := ⟨Or.inr rfl, (⟨mt_115, cd_115, (mm_ws (mm_inp 995 rfl rfl)), (mm_ws (mm_inp 997 rfl rfl)), (mm_ws (mm_inp 31 rfl rfl))⟩ : mm_iv0 8 108 115)⟩
set_option maxRecDepth 100000 in
theorem iv_127 : mm_iv ((8, 79, 116, 0, 1)) := ⟨Or.inr rfl, (⟨mt_116, cd_116, (mm_ws (mm_inp 999 rfl rfl)), (mm_ws (mm_inp 1001 rfl rfl)), (mm_ws (mm_inp 32 rfl rfl))⟩ : mm_iv0 8 79 116)⟩
set_option maxRecDepth 100000 in
theorem iv_128 : mm_iv ((8, 85, 117, 2, 1)) := ⟨Or.inr rfl, (⟨mt_117, Or.inl ⟨rfl, cd_117⟩, (mm_ws (mm_inp 1003 rfl rfl)), (mm_ws (mm_inp 1004 rfl rfl))⟩ : mm_iv2 8 85 117)⟩
set_option maxRecDepth 100000 in
theorem iv_129 : mm_iv ((8, 89, 118, 2, 1)) := ⟨Or.inr rfl, (⟨mt_118, Or.inl ⟨rfl, cd_118⟩, (mm_ws (mm_inp 1006 rfl rfl)), (mm_ws (mm_inp 1007 rfl rfl))⟩ : mm_iv2 8 89 118)⟩
set_option maxRecDepth 100000 in
theorem iv_130 : mm_iv ((8, 155, 119, 0, 0)) := ⟨Or.inr rfl, (⟨mt_119, cd_119, (mm_ws (mm_inp 1009 rfl rfl)), (mm_ws (mm_inp 1011 rfl rfl)), (mm_ws (mm_inp 33 rfl rfl))⟩ : mm_iv0 8 155 119)⟩
set_option maxRecDepth 100000 in
theorem iv_131 : mm_iv ((8, 131, 120, 0, 1)) := ⟨Or.inr rfl, (⟨mt_120, cd_120, (mm_ws (mm_inp 1013 rfl rfl)), (mm_ws (mm_inp 1015 rfl rfl)), (mm_ws (mm_inp 34 rfl rfl))⟩ : mm_iv0 8 131 120)⟩
set_option maxRecDepth 100000 in
theorem iv_132 : mm_iv ((8, 111, 121, 0, 1)) := ⟨Or.inr rfl, (⟨mt_121, cd_121, (mm_ws (mm_inp 1017 rfl rfl)), (mm_ws (mm_inp 1019 rfl rfl)), (mm_ws (mm_inp 35 rfl rfl))⟩ : mm_iv0 8 111 121)⟩
set_option maxRecDepth 100000 in
theorem iv_133 : mm_iv ((8, 105, 122, 0, 0)) := ⟨Or.inr rfl, (⟨mt_122, cd_122, (mm_ws (mm_inp 1021 rfl rfl)), (mm_ws (mm_inp 1023 rfl rfl)), (mm_ws (mm_inp 36 rfl rfl))⟩ : mm_iv0 8 105 122)⟩
set_option maxRecDepth 100000 in
theorem iv_134 : mm_iv ((8, 101, 123, 0, 2)) := ⟨Or.inr rfl, (⟨mt_123, cd_123, (mm_ws (mm_inp 1025 rfl rfl)), (mm_ws (mm_inp 1027 rfl rfl)), (mm_ws (mm_inp 37 rfl rfl))⟩ : mm_iv0 8 101 123)⟩
set_option maxRecDepth 100000 in
theorem iv_135 : mm_iv ((8, 134, 124, 0, 1)) := ⟨Or.inr rfl, (⟨mt_124, cd_124, (mm_ws (mm_inp 1029 rfl rfl)), (mm_ws (mm_inp 1031 rfl rfl)), (mm_ws (mm_inp 38 rfl rfl))⟩ : mm_iv0 8 134 124)⟩
set_option maxRecDepth 100000 in
theorem iv_136 : mm_iv ((8, 121, 125, 0, 1)) := ⟨Or.inr rfl, (⟨mt_125, cd_125, (mm_ws (mm_inp 1033 rfl rfl)), (mm_ws (mm_inp 1035 rfl rfl)), (mm_ws (mm_inp 39 rfl rfl))⟩ : mm_iv0 8 121 125)⟩
set_option maxRecDepth 100000 in
theorem iv_137 : mm_iv ((8, 145, 126, 0, 1)) := ⟨Or.inr rfl, (⟨mt_126, cd_126, (mm_ws (mm_inp 1037 rfl rfl)), (mm_ws (mm_inp 1039 rfl rfl)), (mm_ws (mm_inp 40 rfl rfl))⟩ : mm_iv0 8 145 126)⟩
set_option maxRecDepth 100000 in
theorem iv_138 : mm_iv ((8, 124, 127, 0, 0)) := ⟨Or.inr rfl, (⟨mt_127, cd_127, (mm_ws (mm_inp 1041 rfl rfl)), (mm_ws (mm_inp 1043 rfl rfl)), (mm_ws (mm_inp 41 rfl rfl))⟩ : mm_iv0 8 124 127)⟩
set_option maxRecDepth 100000 in
theorem iv_139 : mm_iv ((8, 128, 128, 0, 0)) := ⟨Or.inr rfl, (⟨mt_128, cd_128, (mm_ws (mm_inp 1045 rfl rfl)), (mm_ws (mm_inp 1047 rfl rfl)), (mm_ws (mm_inp 42 rfl rfl))⟩ : mm_iv0 8 128 128)⟩
set_option maxRecDepth 100000 in
theorem iv_140 : mm_iv ((8, 138, 129, 0, 4)) := ⟨Or.inr rfl, (⟨mt_129, cd_129, (mm_ws (mm_inp 1049 rfl rfl)), (mm_ws (mm_inp 1051 rfl rfl)), (mm_ws (mm_inp 43 rfl rfl))⟩ : mm_iv0 8 138 129)⟩
set_option maxRecDepth 100000 in
theorem iv_141 : mm_iv ((8, 158, 130, 0, 0)) := ⟨Or.inr rfl, (⟨mt_130, cd_130, (mm_ws (mm_inp 1053 rfl rfl)), (mm_ws (mm_inp 1055 rfl rfl)), (mm_ws (mm_inp 44 rfl rfl))⟩ : mm_iv0 8 158 130)⟩
set_option maxRecDepth 100000 in
theorem iv_142 : mm_iv ((8, 164, 131, 0, 0)) := ⟨Or.inr rfl, (⟨mt_131, cd_131, (mm_ws (mm_inp 1059 rfl rfl)), (mm_ws (mm_inp 1061 rfl rfl)), (mm_ws (mm_inp 45 rfl rfl))⟩ : mm_iv0 8 164 131)⟩
set_option maxRecDepth 100000 in
theorem iv_143 : mm_iv ((8, 151, 132, 0, 2)) := ⟨Or.inr rfl, (⟨mt_132, cd_132, (mm_ws (mm_inp 1063 rfl rfl)), (mm_ws (mm_inp 1065 rfl rfl)), (mm_ws (mm_inp 46 rfl rfl))⟩ : mm_iv0 8 151 132)⟩
set_option maxRecDepth 100000 in
theorem iv_144 : mm_iv ((0, 87, 133, 0, 1)) := ⟨Or.inr rfl, (⟨mt_133, cd_133, (mm_ws (mm_inp 1067 rfl rfl)), (mm_ws (mm_inp 1068 rfl rfl)), (mm_ws (mm_inp 1069 rfl rfl))⟩ : mm_iv0 0 87 133)⟩
set_option maxRecDepth 100000 in
theorem iv_145 : mm_iv ((0, 90, 134, 0, 1)) := ⟨Or.inr rfl, (⟨mt_134, cd_134, (mm_ws (mm_inp 1071 rfl rfl)), (mm_ws (mm_inp 1072 rfl rfl)), (mm_ws (mm_inp 1073 rfl rfl))⟩ : mm_iv0 0 90 134)⟩
set_option maxRecDepth 100000 in
theorem iv_146 : mm_iv ((0, 93, 135, 0, 0)) := ⟨Or.inr rfl, (⟨mt_135, cd_135, (mm_ws (mm_inp 1075 rfl rfl)), (mm_ws (mm_inp 1076 rfl rfl)), (mm_ws (mm_inp 1077 rfl rfl))⟩ : mm_iv0 0 93 135)⟩
set_option maxRecDepth 100000 in
theorem iv_147 : mm_iv ((8, 198, 136, 0, 0)) := ⟨Or.inr rfl, (⟨mt_136, cd_136, (mm_ws (mm_inp 1079 rfl rfl)), (mm_ws (mm_inp 1081 rfl rfl)), (mm_ws (mm_inp 47 rfl rfl))⟩ : mm_iv0 8 198 136)⟩
set_option maxRecDepth 100000 in
theorem iv_148 : mm_iv ((8, 192, 137, 2, 1)) := ⟨Or.inr rfl, (⟨mt_137, Or.inl ⟨rfl, cd_137⟩, (mm_ws (mm_inp 1083 rfl rfl)), (mm_ws (mm_inp 1084 rfl rfl))⟩ : mm_iv2 8 192 137)⟩
set_option maxRecDepth 100000 in
theorem iv_149 : mm_iv ((8, 189, 138, 2, 1)) := ⟨Or.inr rfl, (⟨mt_138, Or.inl ⟨rfl, cd_138⟩, (mm_ws (mm_inp 1086 rfl rfl)), (mm_ws (mm_inp 1087 rfl rfl))⟩ : mm_iv2 8 189 138)⟩
set_option maxRecDepth 100000 in
theorem iv_150 : mm_iv ((8, 195, 139, 2, 1)) := ⟨Or.inr rfl, (⟨mt_139, Or.inl ⟨rfl, cd_139⟩, (mm_ws (mm_inp 1089 rfl rfl)), (mm_ws (mm_inp 1090 rfl rfl))⟩ : mm_iv2 8 195 139)⟩
set_option maxRecDepth 100000 in
theorem iv_151 : mm_iv ((8, 202, 140, 0, 0)) := ⟨Or.inr rfl, (⟨mt_140, cd_140, (mm_ws (mm_inp 1092 rfl rfl)), (mm_ws (mm_inp 1094 rfl rfl)), (mm_ws (mm_inp 48 rfl rfl))⟩ : mm_iv0 8 202 140)⟩
set_option maxRecDepth 100000 in
theorem iv_152 : mm_iv ((8, 205, 141, 0, 0)) := ⟨Or.inr rfl, (⟨mt_141, cd_141, (mm_ws (mm_inp 1096 rfl rfl)), (mm_ws (mm_inp 1098 rfl rfl)), (mm_ws (mm_inp 49 rfl rfl))⟩ : mm_iv0 8 205 141)⟩
set_option maxRecDepth 100000 in
theorem iv_153 : mm_iv ((0, 97, 142, 0, 2)) := ⟨Or.inr rfl, (⟨mt_142, cd_142, (mm_ws (mm_inp 1100 rfl rfl)), (mm_ws (mm_inp 1101 rfl rfl)), (mm_ws (mm_inp 1102 rfl rfl))⟩ : mm_iv0 0 97 142)⟩
set_option maxRecDepth 100000 in
theorem iv_154 : mm_iv ((0, 100, 143, 0, 2)) := ⟨Or.inr rfl, (⟨mt_143, cd_143, (mm_ws (mm_inp 1104 rfl rfl)), (mm_ws (mm_inp 1105 rfl rfl)), (mm_ws (mm_inp 1106 rfl rfl))⟩ : mm_iv0 0 100 143)⟩
set_option maxRecDepth 100000 in
theorem iv_155 : mm_iv ((0, 103, 144, 0, 0)) := ⟨Or.inr rfl, (⟨mt_144, cd_144, (mm_ws (mm_inp 1108 rfl rfl)), (mm_ws (mm_inp 1109 rfl rfl)), (mm_ws (mm_inp 1110 rfl rfl))⟩ : mm_iv0 0 103 144)⟩
set_option maxRecDepth 100000 in
theorem iv_156 : mm_iv ((8, 223, 145, 0, 0)) := ⟨Or.inr rfl, (⟨mt_145, cd_145, (mm_ws (mm_inp 1112 rfl rfl)), (mm_ws (mm_inp 1114 rfl rfl)), (mm_ws (mm_inp 50 rfl rfl))⟩ : mm_iv0 8 223 145)⟩
set_option maxRecDepth 100000 in
theorem iv_157 : mm_iv ((8, 208, 146, 0, 1)) := ⟨Or.inr rfl, (⟨mt_146, cd_146, (mm_ws (mm_inp 1116 rfl rfl)), (mm_ws (mm_inp 1118 rfl rfl)), (mm_ws (mm_inp 51 rfl rfl))⟩ : mm_iv0 8 208 146)⟩
set_option maxRecDepth 100000 in
theorem iv_158 : mm_iv ((0, 107, 147, 0, 0)) := ⟨Or.inr rfl, (⟨mt_147, cd_147, (mm_ws (mm_inp 1120 rfl rfl)), (mm_ws (mm_inp 1121 rfl rfl)), (mm_ws (mm_inp 1122 rfl rfl))⟩ : mm_iv0 0 107 147)⟩
set_option maxRecDepth 100000 in
theorem iv_159 : mm_iv ((0, 111, 148, 0, 1)) := ⟨Or.inr rfl, (⟨mt_148, cd_148, (mm_ws (mm_inp 1124 rfl rfl)), (mm_ws (mm_inp 1125 rfl rfl)), (mm_ws (mm_inp 1126 rfl rfl))⟩ : mm_iv0 0 111 148)⟩
set_option maxRecDepth 100000 in
theorem iv_160 : mm_iv ((8, 229, 149, 0, 1)) := ⟨Or.inr rfl, (⟨mt_149, cd_149, (mm_ws (mm_inp 1128 rfl rfl)), (mm_ws (mm_inp 1130 rfl rfl)), (mm_ws (mm_inp 52 rfl rfl))⟩ : mm_iv0 8 229 149)⟩
set_option maxRecDepth 100000 in
theorem iv_161 : mm_iv ((8, 217, 150, 0, 1)) := ⟨Or.inr rfl, (⟨mt_150, cd_150, (mm_ws (mm_inp 1132 rfl rfl)), (mm_ws (mm_inp 1134 rfl rfl)), (mm_ws (mm_inp 53 rfl rfl))⟩ : mm_iv0 8 217 150)⟩
set_option maxRecDepth 100000 in
theorem iv_162 : mm_iv ((8, 220, 151, 2, 2)) := ⟨Or.inr rfl, (⟨mt_151, Or.inl ⟨rfl, cd_151⟩, (mm_ws (mm_inp 1136 rfl rfl)), (mm_ws (mm_inp 1137 rfl rfl))⟩ : mm_iv2 8 220 151)⟩
set_option maxRecDepth 100000 in
theorem iv_163 : mm_iv ((8, 211, 152, 2, 1)) := ⟨Or.inr rfl, (⟨mt_152, Or.inl ⟨rfl, cd_152⟩, (mm_ws (mm_inp 1139 rfl rfl)), (mm_ws (mm_inp 1140 rfl rfl))⟩ : mm_iv2 8 211 152)⟩
set_option maxRecDepth 100000 in
theorem iv_164 : mm_iv ((0, 114, 153, 0, 1)) := ⟨Or.inr rfl, (⟨mt_153, cd_153, (mm_ws (mm_inp 1142 rfl rfl)), (mm_ws (mm_inp 1143 rfl rfl)), (mm_ws (mm_inp 1144 rfl rfl))⟩ : mm_iv0 0 114 153)⟩
set_option maxRecDepth 100000 in
theorem iv_165 : mm_iv ((0, 117, 154, 0, 1)) := ⟨Or.inr rfl, (⟨mt_154, cd_154, (mm_ws (mm_inp 1146 rfl rfl)), (mm_ws (mm_inp 1147 rfl rfl)), (mm_ws (mm_inp 1148 rfl rfl))⟩ : mm_iv0 0 117 154)⟩
set_option maxRecDepth 100000 in
theorem iv_166 : mm_iv ((0, 120, 155, 0, 0)) := ⟨Or.inr rfl, (⟨mt_155, cd_155, (mm_ws (mm_inp 1150 rfl rfl)), (mm_ws (mm_inp 1151 rfl rfl)), (mm_ws (mm_inp 1152 rfl rfl))⟩ : mm_iv0 0 120 155)⟩
set_option maxRecDepth 100000 in
theorem iv_167 : mm_iv ((8, 235, 156, 0, 1)) := ⟨Or.inr rfl, (⟨mt_156, cd_156, (mm_ws (mm_inp 1154 rfl rfl)), (mm_ws (mm_inp 1156 rfl rfl)), (mm_ws (mm_inp 54 rfl rfl))⟩ : mm_iv0 8 235 156)⟩
set_option maxRecDepth 100000 in
theorem iv_168 : mm_iv ((8, 238, 157, 0, 1)) := ⟨Or.inr rfl, (⟨mt_157, cd_157, (mm_ws (mm_inp 1158 rfl rfl)), (mm_ws (mm_inp 1160 rfl rfl)), (mm_ws (mm_inp 55 rfl rfl))⟩ : mm_iv0 8 238 157)⟩
set_option maxRecDepth 100000 in
theorem iv_169 : mm_iv ((8, 241, 158, 0, 1)) := ⟨Or.inr rfl, (⟨mt_158, cd_158, (mm_ws (mm_inp 1162 rfl rfl)), (mm_ws (mm_inp 1164 rfl rfl)), (mm_ws (mm_inp 56 rfl rfl))⟩ : mm_iv0 8 241 158)⟩
set_option maxRecDepth 100000 in
theorem iv_170 : mm_iv ((8, 244, 159, 0, 0)) := ⟨Or.inr rfl, (⟨mt_159, cd_159, (mm_ws (mm_inp 1166 rfl rfl)), (mm_ws (mm_inp 1168 rfl rfl)), (mm_ws (mm_inp 57 rfl rfl))⟩ : mm_iv0 8 244 159)⟩
set_option maxRecDepth 100000 in
theorem iv_171 : mm_iv ((8, 247, 160, 0, 1)) := ⟨Or.inr rfl, (⟨mt_160, cd_160, (mm_ws (mm_inp 1170 rfl rfl)), (mm_ws (mm_inp 1172 rfl rfl)), (mm_ws (mm_inp 58 rfl rfl))⟩ : mm_iv0 8 247 160)⟩
set_option maxRecDepth 100000 in
theorem iv_172 : mm_iv ((0, 123, 161, 0, 1)) := ⟨Or.inr rfl, (⟨mt_161, cd_161, (mm_ws (mm_inp 1174 rfl rfl)), (mm_ws (mm_inp 1175 rfl rfl)), (mm_ws (mm_inp 1176 rfl rfl))⟩ : mm_iv0 0 123 161)⟩
set_option maxRecDepth 100000 in
theorem iv_173 : mm_iv ((0, 127, 162, 0, 0)) := ⟨Or.inr rfl, (⟨mt_162, cd_162, (mm_ws (mm_inp 1178 rfl rfl)), (mm_ws (mm_inp 1179 rfl rfl)), (mm_ws (mm_inp 1180 rfl rfl))⟩ : mm_iv0 0 127 162)⟩
set_option maxRecDepth 100000 in
theorem iv_174 : mm_iv ((0, 131, 163, 0, 1)) := ⟨Or.inr rfl, (⟨mt_163, cd_163, (mm_ws (mm_inp 1182 rfl rfl)), (mm_ws (mm_inp 1183 rfl rfl)), (mm_ws (mm_inp 1184 rfl rfl))⟩ : mm_iv0 0 131 163)⟩
set_option maxRecDepth 100000 in
theorem iv_175 : mm_iv ((1, 9, 16, 3, 0)) := ⟨Or.inr rfl, (⟨mt_16, cd_16, by decide, (mm_ws (mm_inp 92 rfl rfl)), rfl, rfl⟩ : mm_iv3 1 9 16)⟩
set_option maxRecDepth 100000 in
theorem iv_176 : mm_iv ((3, 11, 17, 3, 0)) := ⟨Or.inr rfl, (⟨mt_17, cd_17, by decide, (mm_ws (mm_inp 98 rfl rfl)), rfl, rfl⟩ : mm_iv3 3 11 17)⟩
set_option maxRecDepth 100000 in
theorem iv_177 : mm_iv ((3, 20, 18, 3, 0)) := ⟨Or.inr rfl, (⟨mt_18, cd_18, by decide, (mm_ws (mm_inp 128 rfl rfl)), rfl, rfl⟩ : mm_iv3 3 20 18)⟩
set_option maxRecDepth 100000 in
theorem iv_178 : mm_iv ((1, 28, 19, 3, 0)) := ⟨Or.inr rfl, (⟨mt_19, cd_19, by decide, (mm_ws (mm_inp 215 rfl rfl)), rfl, rfl⟩ : mm_iv3 1 28 19)⟩
set_option maxRecDepth 100000 in
theorem iv_179 : mm_iv ((1, 35, 20, 3, 0)) := ⟨Or.inr rfl, (⟨mt_20, cd_20, by decide, (mm_ws (mm_inp 235 rfl rfl)), rfl, rfl⟩ : mm_iv3 1 35 20)⟩
set_option maxRecDepth 100000 in
theorem iv_180 : mm_iv ((1, 42, 21, 3, 0)) := ⟨Or.inr rfl, (⟨mt_21, cd_21, by decide, (mm_ws (mm_inp 261 rfl rfl)), rfl, rfl⟩ : mm_iv3 1 42 21)⟩
set_option maxRecDepth 100000 in
theorem iv_all : ∀ q ∈ t_IVl, mm_iv q := List.forall_mem_cons.mpr ⟨iv_0, List.forall_mem_cons.mpr ⟨iv_1, List.forall_mem_cons.mpr ⟨iv_2, List.forall_mem_cons.mpr ⟨iv_3, List.forall_mem_cons.mpr ⟨iv_4, List.forall_mem_cons.mpr ⟨iv_5, List.forall_mem_cons.mpr ⟨iv_6, List.forall_mem_cons.mpr ⟨iv_7, List.forall_mem_cons.mpr ⟨iv_8, List.forall_mem_cons.mpr ⟨iv_9, List.forall_mem_cons.mpr ⟨iv_10, List.forall_mem_cons.mpr ⟨iv_11, List.forall_mem_cons.mpr ⟨iv_12, List.forall_mem_cons.mpr ⟨iv_13, List.forall_mem_cons.mpr ⟨iv_14, List.forall_mem_cons.mpr ⟨iv_15, List.forall_mem_cons.mpr ⟨iv_16, List.forall_mem_cons.mpr ⟨iv_17, List.forall_mem_cons.mpr ⟨iv_18, List.forall_mem_cons.mpr ⟨iv_19, List.forall_mem_cons.mpr ⟨iv_20, List.forall_mem_cons.mpr ⟨iv_21, List.forall_mem_cons.mpr ⟨iv_22, List.forall_mem_cons.mpr ⟨iv_23, List.forall_mem_cons.mpr ⟨iv_24, List.forall_mem_cons.mpr ⟨iv_25, List.forall_mem_cons.mpr ⟨iv_26, List.forall_mem_cons.mpr ⟨iv_27, List.forall_mem_cons.mpr ⟨iv_28, List.forall_mem_cons.mpr ⟨iv_29, List.forall_mem_cons.mpr ⟨iv_30, List.forall_mem_cons.mpr ⟨iv_31, List.forall_mem_cons.mpr ⟨iv_32, List.forall_mem_cons.mpr ⟨iv_33, List.forall_mem_cons.mpr ⟨iv_34, List.forall_mem_cons.mpr ⟨iv_35, List.forall_mem_cons.mpr ⟨iv_36, List.forall_mem_cons.mpr ⟨iv_37, List.forall_mem_cons.mpr ⟨iv_38, List.forall_mem_cons.mpr ⟨iv_39, List.forall_mem_cons.mpr ⟨iv_40, List.forall_mem_cons.mpr ⟨iv_41, List.forall_mem_cons.mpr ⟨iv_42, List.forall_mem_cons.mpr ⟨iv_43, List.forall_mem_cons.mpr ⟨iv_44, List.forall_mem_cons.mpr ⟨iv_45, List.forall_mem_cons.mpr ⟨iv_46, List.forall_mem_cons.mpr ⟨iv_47, List.forall_mem_cons.mpr ⟨iv_48, List.forall_mem_cons.mpr ⟨iv_49, List.forall_mem_cons.mpr ⟨iv_50, List.forall_mem_cons.mpr ⟨iv_51, List.forall_mem_cons.mpr ⟨iv_52, List.forall_mem_cons.mpr ⟨iv_53, List.forall_mem_cons.mpr ⟨iv_54, List.forall_mem_cons.mpr ⟨iv_55, List.forall_mem_cons.mpr ⟨iv_56, List.forall_mem_cons.mpr ⟨iv_57, List.forall_mem_cons.mpr ⟨iv_58, List.forall_mem_cons.mpr ⟨iv_59, List.forall_mem_cons.mpr ⟨iv_60, List.forall_mem_cons.mpr ⟨iv_61, List.forall_mem_cons.mpr ⟨iv_62, List.forall_mem_cons.mpr ⟨iv_63, List.forall_mem_cons.mpr ⟨iv_64, List.forall_mem_cons.mpr ⟨iv_65, List.forall_mem_cons.mpr ⟨iv_66, List.forall_mem_cons.mpr ⟨iv_67, List.forall_mem_cons.mpr ⟨iv_68, List.forall_mem_cons.mpr ⟨iv_69, List.forall_mem_cons.mpr ⟨iv_70, List.forall_mem_cons.mpr ⟨iv_71, List.forall_mem_cons.mpr ⟨iv_72, List.forall_mem_cons.mpr ⟨iv_73, List.forall_mem_cons.mpr ⟨iv_74, List.forall_mem_cons.mpr ⟨iv_75, List.forall_mem_cons.mpr ⟨iv_76, List.forall_mem_cons.mpr ⟨iv_77, List.forall_mem_cons.mpr ⟨iv_78, List.forall_mem_cons.mpr ⟨iv_79, List.forall_mem_cons.mpr ⟨iv_80, List.forall_mem_cons.mpr ⟨iv_81, List.forall_mem_cons.mpr ⟨iv_82, List.forall_mem_cons.mpr ⟨iv_83, List.forall_mem_cons.mpr ⟨iv_84, List.forall_mem_cons.mpr ⟨iv_85, List.forall_mem_cons.mpr ⟨iv_86, List.forall_mem_cons.mpr ⟨iv_87, List.forall_mem_cons.mpr ⟨iv_88, List.forall_mem_cons.mpr ⟨iv_89, List.forall_mem_cons.mpr ⟨iv_90, List.forall_mem_cons.mpr ⟨iv_91, List.forall_mem_cons.mpr ⟨iv_92, List.forall_mem_cons.mpr ⟨iv_93, List.forall_mem_cons.mpr ⟨iv_94, List.forall_mem_cons.mpr ⟨iv_95, List.forall_mem_cons.mpr ⟨iv_96, List.forall_mem_cons.mpr ⟨iv_97, List.forall_mem_cons.mpr ⟨iv_98, List.forall_mem_cons.mpr ⟨iv_99, List.forall_mem_cons.mpr ⟨iv_100, List.forall_mem_cons.mpr ⟨iv_101, List.forall_mem_cons.mpr ⟨iv_102, List.forall_mem_cons.mpr ⟨iv_103, List.forall_mem_cons.mpr ⟨iv_104, List.forall_mem_cons.mpr ⟨iv_105, List.forall_mem_cons.mpr ⟨iv_106, List.forall_mem_cons.mpr ⟨iv_107, List.forall_mem_cons.mpr ⟨iv_108, List.forall_mem_cons.mpr ⟨iv_109, List.forall_mem_cons.mpr ⟨iv_110, List.forall_mem_cons.mpr ⟨iv_111, List.forall_mem_cons.mpr ⟨iv_112, List.forall_mem_cons.mpr ⟨iv_113, List.forall_mem_cons.mpr ⟨iv_114, List.forall_mem_cons.mpr ⟨iv_115, List.forall_mem_cons.mpr ⟨iv_116, List.forall_mem_cons.mpr ⟨iv_117, List.forall_mem_cons.mpr ⟨iv_118, List.forall_mem_cons.mpr ⟨iv_119, List.forall_mem_cons.mpr ⟨iv_120, List.forall_mem_cons.mpr ⟨iv_121, List.forall_mem_cons.mpr ⟨iv_122, List.forall_mem_cons.mpr ⟨iv_123, List.forall_mem_cons.mpr ⟨iv_124, List.forall_mem_cons.mpr ⟨iv_125, List.forall_mem_cons.mpr ⟨iv_126, List.forall_mem_cons.mpr ⟨iv_127, List.forall_mem_cons.mpr ⟨iv_128, List.forall_mem_cons.mpr ⟨iv_129, List.forall_mem_cons.mpr ⟨iv_130, List.forall_mem_cons.mpr ⟨iv_131, List.forall_mem_cons.mpr ⟨iv_132, List.forall_mem_cons.mpr ⟨iv_133, List.forall_mem_cons.mpr ⟨iv_134, List.forall_mem_cons.mpr ⟨iv_135, List.forall_mem_cons.mpr ⟨iv_136, List.forall_mem_cons.mpr ⟨iv_137, List.forall_mem_cons.mpr ⟨iv_138, List.forall_mem_cons.mpr ⟨iv_139, List.forall_mem_cons.mpr ⟨iv_140, List.forall_mem_cons.mpr ⟨iv_141, List.forall_mem_cons.mpr ⟨iv_142, List.forall_mem_cons.mpr ⟨iv_143, List.forall_mem_cons.mpr ⟨iv_144, List.forall_mem_cons.mpr ⟨iv_145, List.forall_mem_cons.mpr ⟨iv_146, List.forall_mem_cons.mpr ⟨iv_147, List.forall_mem_cons.mpr ⟨iv_148, List.forall_mem_cons.mpr ⟨iv_149, List.forall_mem_cons.mpr ⟨iv_150, List.forall_mem_cons.mpr ⟨iv_151, List.forall_mem_cons.mpr ⟨iv_152, List.forall_mem_cons.mpr ⟨iv_153, List.forall_mem_cons.mpr ⟨iv_154, List.forall_mem_cons.mpr ⟨iv_155, List.forall_mem_cons.mpr ⟨iv_156, List.forall_mem_cons.mpr ⟨iv_157, List.forall_mem_cons.mpr ⟨iv_158, List.forall_mem_cons.mpr ⟨iv_159, List.forall_mem_cons.mpr ⟨iv_160, List.forall_mem_cons.mpr ⟨iv_161, List.forall_mem_cons.mpr ⟨iv_162, List.forall_mem_cons.mpr ⟨iv_163, List.forall_mem_cons.mpr ⟨iv_164, List.forall_mem_cons.mpr ⟨iv_165, List.forall_mem_cons.mpr ⟨iv_166, List.forall_mem_cons.mpr ⟨iv_167, List.forall_mem_cons.mpr ⟨iv_168, List.forall_mem_cons.mpr ⟨iv_169, List.forall_mem_cons.mpr ⟨iv_170, List.forall_mem_cons.mpr ⟨iv_171, List.forall_mem_cons.mpr ⟨iv_172, List.forall_mem_cons.mpr ⟨iv_173, List.forall_mem_cons.mpr ⟨iv_174, List.forall_mem_cons.mpr ⟨iv_175, List.forall_mem_cons.mpr ⟨iv_176, List.forall_mem_cons.mpr ⟨iv_177, List.forall_mem_cons.mpr ⟨iv_178, List.forall_mem_cons.mpr ⟨iv_179, List.forall_mem_cons.mpr ⟨iv_180, fun _ h => absurd h List.not_mem_nil⟩⟩⟩⟩⟩⟩⟩⟩⟩⟩⟩⟩⟩⟩⟩⟩⟩⟩⟩⟩⟩⟩⟩⟩⟩⟩⟩⟩⟩⟩⟩⟩⟩⟩⟩⟩⟩⟩⟩⟩⟩⟩⟩⟩⟩⟩⟩⟩⟩⟩⟩⟩⟩⟩⟩⟩⟩⟩⟩⟩⟩⟩⟩⟩⟩⟩⟩⟩⟩⟩⟩⟩⟩⟩⟩⟩⟩⟩⟩⟩⟩⟩⟩⟩⟩⟩⟩⟩⟩⟩⟩⟩⟩⟩⟩⟩⟩⟩⟩⟩⟩⟩⟩⟩⟩⟩⟩⟩⟩⟩⟩⟩⟩⟩⟩⟩⟩⟩⟩⟩⟩⟩⟩⟩⟩⟩⟩⟩⟩⟩⟩⟩⟩⟩⟩⟩⟩⟩⟩⟩⟩⟩⟩⟩⟩⟩⟩⟩⟩⟩⟩⟩⟩⟩⟩⟩⟩⟩⟩⟩⟩⟩⟩⟩⟩⟩⟩⟩⟩⟩⟩⟩⟩⟩⟩⟩⟩⟩⟩⟩⟩
set_option maxRecDepth 100000 in
theorem ob_i : Cond.instanceMethod Lib.objectInit ∈ t_WS := (mm_ws (mm_inp 87 rfl rfl))
set_option maxRecDepth 100000 in
theorem ob_c : Cond.code Lib.objectInit ⟨#[0xb1]⟩ 1 none ∈ t_WS := (mm_ws (mm_inp 88 rfl rfl))
set_option maxRecDepth 100000 in
theorem mth_min : Cond.static Lib.Math.min.name ∈ t_WS ∧ Cond.code Lib.Math.min.name Lib.Math.min.code 2 (some .int) ∈ t_WS := ⟨(mm_ws (mm_inp 449 rfl rfl)), (mm_ws (mm_inp 450 rfl rfl))⟩
set_option maxRecDepth 100000 in
theorem mth_max : Cond.static Lib.Math.max.name ∈ t_WS ∧ Cond.code Lib.Math.max.name Lib.Math.max.code 2 (some .int) ∈ t_WS := ⟨(mm_ws (mm_inp 684 rfl rfl)), (mm_ws (mm_inp 685 rfl rfl))⟩
set_option maxRecDepth 100000 in
theorem mth_i : Cond.initialized "java/lang/Math" ∈ t_WS := (mm_ws (mm_inp 73 rfl rfl))
set_option maxRecDepth 100000 in
theorem ac_int : Cond.arrayClass .int ∈ t_WS := (mm_ws (mm_inp 194 rfl rfl))
set_option maxRecDepth 100000 in
theorem ac_byte : Cond.arrayClass .byte ∈ t_WS := (mm_ws (mm_inp 124 rfl rfl))
set_option maxRecDepth 100000 in
theorem ac_long : Cond.arrayClass .long ∈ t_WS := (mm_ws (mm_inp 1186 rfl rfl))
def t_FRl : List Nat := [10, 7, 7, 9, 7, 7, 7, 7, 7, 7, 7, 7, 7, 8, 7, 3, 2, 1, 1, 1, 1, 1, 0, 1, 0, 0, 6, 0, 6, 8, 0, 3, 0, 2, 1, 0, 0, 0, 0, 7, 1, 6, 2, 0, 1, 0, 5, 4, 1, 0, 3, 0, 2, 1, 0, 3, 1, 0, 0, 2, 0, 5, 4, 3, 0, 0, 2, 6, 6, 0, 6, 1, 0, 3, 1, 2, 1, 0, 2, 1, 1, 6, 6, 6, 1, 0, 0, 6, 1, 0, 0, 6, 6, 0, 2, 1, 0, 7, 6, 1, 0, 5, 4, 1, 5, 6, 1, 0, 1, 0, 1, 0, 7, 0, 6, 2, 0, 1, 1, 5, 2, 0, 1, 0, 3, 1, 4, 1, 3, 0, 1, 4, 0, 1, 1, 3, 2, 1, 0, 1, 2, 2, 1, 1, 2, 1, 0, 0, 3, 2, 0, 1, 0, 1, 2, 3, 0, 1, 2, 1, 2, 1, 0, 0]
def t_LOl : List Nat := [213, 114, 111, 191, 111, 111, 116, 112, 112, 111, 111, 111, 112, 173, 111, 60, 40, 20, 20, 20, 20, 20, 0, 22, 0, 0, 90, 0, 90, 170, 0, 61, 0, 41, 21, 0, 0, 0, 0, 149, 20, 127, 42, 0, 22, 0, 107, 85, 20, 0, 64, 0, 43, 22, 0, 62, 25, 0, 0, 42, 0, 109, 86, 63, 0, 0, 42, 90, 90, 0, 95, 21, 0, 73, 21, 42, 21, 0, 48, 23, 23, 90, 90, 90, 21, 0, 0, 90, 24, 0, 0, 90, 90, 0, 47, 25, 0, 153, 130, 21, 0, 107, 85, 21, 107, 90, 20, 0, 21, 0, 22, 0, 149, 0, 129, 42, 0, 22, 22, 108, 42, 0, 22, 0, 63, 21, 84, 22, 63, 0, 21, 84, 0, 21, 22, 68, 40, 20, 0, 20, 40, 40, 22, 22, 43, 21, 0, 0, 67, 44, 0, 22, 0, 22, 43, 63, 0, 21, 42, 21, 42, 22, 0, 0]
def t_FR (mi : Nat) : Nat := t_FRl.getD mi 0
def t_LO (mi : Nat) : Nat := t_LOl.getD mi 0
def mm_rm (mi : Nat) (q : Nat × mm_P) : Bool := match q.2.1 with
  | .invokevirtual _ => Nat.ble (t_FR q.2.2.1 + 1) (t_FR mi) && Nat.ble (8 + (t_ML q.2.2.1 + 11) + t_LO q.2.2.1) (t_LO mi)
  | .invokestatic _ => (bif Nat.ble 6 q.2.2.2.1 then Nat.ble 1 (t_FR mi) && Nat.ble 21 (t_LO mi) else Nat.ble (t_FR q.2.2.1 + 1) (t_FR mi) && Nat.ble (8 + (t_ML q.2.2.1 + 11) + t_LO q.2.2.1) (t_LO mi))
  | .invokespecial _ => (bif Nat.beq q.2.2.2.1 5 then Nat.ble 1 (t_FR mi) && Nat.ble 20 (t_LO mi) else bif Nat.beq q.2.2.2.1 9 then true else Nat.ble (t_FR q.2.2.1 + 1) (t_FR mi) && Nat.ble (8 + (t_ML q.2.2.1 + 11) + t_LO q.2.2.1) (t_LO mi))
  | .new _ => Nat.blt q.2.2.1 100 || (Nat.ble 6 (t_FR mi) && Nat.ble 90 (t_LO mi))
  | _ => true
set_option maxRecDepth 100000 in
theorem rm_all : ∀ mi, mi < 164 → (t_LSl.getD mi []).all (mm_rm mi) = true := by decide +kernel
