/-! the static facts: methods -/
set_option maxRecDepth 20000 in
theorem cm_0 : XCm 0 2 := ⟨xin_at 146 rfl rfl, by decide +kernel, by decide +kernel, by decide +kernel, by decide, by decide +kernel, rfl, fun _ => rfl, rfl, by decide⟩
set_option maxRecDepth 20000 in
theorem im_0 : Cond.instanceMethod (xyn 0) ∈ xTs := xin_at 145 rfl rfl
set_option maxRecDepth 20000 in
theorem cm_1 : XCm 1 0 := ⟨xin_at 959 rfl rfl, by decide +kernel, by decide +kernel, by decide +kernel, by decide, by decide +kernel, rfl, fun h => absurd h (by decide), rfl, by decide⟩
set_option maxRecDepth 20000 in
theorem im_1 : Cond.instanceMethod (xyn 1) ∈ xTs := xin_at 957 rfl rfl
set_option maxRecDepth 20000 in
theorem cm_2 : XCm 2 2 := ⟨xin_at 519 rfl rfl, by decide +kernel, by decide +kernel, by decide +kernel, by decide, by decide +kernel, rfl, fun h => absurd h (by decide), rfl, by decide⟩
set_option maxRecDepth 20000 in
theorem im_2 : Cond.instanceMethod (xyn 2) ∈ xTs := xin_at 517 rfl rfl
set_option maxRecDepth 20000 in
theorem cm_3 : XCm 3 1 := ⟨xin_at 628 rfl rfl, by decide +kernel, by decide +kernel, by decide +kernel, by decide, by decide +kernel, rfl, fun h => absurd h (by decide), rfl, by decide⟩
set_option maxRecDepth 20000 in
theorem im_3 : Cond.instanceMethod (xyn 3) ∈ xTs := xin_at 626 rfl rfl
set_option maxRecDepth 20000 in
theorem cm_4 : XCm 4 1 := ⟨xin_at 523 rfl rfl, by decide +kernel, by decide +kernel, by decide +kernel, by decide, by decide +kernel, rfl, fun h => absurd h (by decide), rfl, by decide⟩
set_option maxRecDepth 20000 in
theorem im_4 : Cond.instanceMethod (xyn 4) ∈ xTs := xin_at 522 rfl rfl
set_option maxRecDepth 20000 in
theorem cm_5 : XCm 5 1 := ⟨xin_at 531 rfl rfl, by decide +kernel, by decide +kernel, by decide +kernel, by decide, by decide +kernel, rfl, fun h => absurd h (by decide), rfl, by decide⟩
set_option maxRecDepth 20000 in
theorem im_5 : Cond.instanceMethod (xyn 5) ∈ xTs := xin_at 530 rfl rfl
set_option maxRecDepth 20000 in
theorem cm_6 : XCm 6 1 := ⟨xin_at 539 rfl rfl, by decide +kernel, by decide +kernel, by decide +kernel, by decide, by decide +kernel, rfl, fun h => absurd h (by decide), rfl, by decide⟩
set_option maxRecDepth 20000 in
theorem im_6 : Cond.instanceMethod (xyn 6) ∈ xTs := xin_at 538 rfl rfl
set_option maxRecDepth 20000 in
theorem cm_7 : XCm 7 0 := ⟨xin_at 963 rfl rfl, by decide +kernel, by decide +kernel, by decide +kernel, by decide, by decide +kernel, rfl, fun h => absurd h (by decide), rfl, by decide⟩
set_option maxRecDepth 20000 in
theorem im_7 : Cond.instanceMethod (xyn 7) ∈ xTs := xin_at 962 rfl rfl
set_option maxRecDepth 20000 in
theorem cm_8 : XCm 8 1 := ⟨xin_at 969 rfl rfl, by decide +kernel, by decide +kernel, by decide +kernel, by decide, by decide +kernel, rfl, fun h => absurd h (by decide), rfl, by decide⟩
set_option maxRecDepth 20000 in
theorem im_8 : Cond.instanceMethod (xyn 8) ∈ xTs := xin_at 968 rfl rfl
set_option maxRecDepth 20000 in
theorem cm_9 : XCm 9 0 := ⟨xin_at 975 rfl rfl, by decide +kernel, by decide +kernel, by decide +kernel, by decide, by decide +kernel, rfl, fun h => absurd h (by decide), rfl, by decide⟩
set_option maxRecDepth 20000 in
theorem im_9 : Cond.instanceMethod (xyn 9) ∈ xTs := xin_at 974 rfl rfl
set_option maxRecDepth 20000 in
theorem cm_10 : XCm 10 2 := ⟨xin_at 292 rfl rfl, by decide +kernel, by decide +kernel, by decide +kernel, by decide, by decide +kernel, rfl, fun _ => rfl, rfl, by decide⟩
set_option maxRecDepth 20000 in
theorem im_10 : Cond.instanceMethod (xyn 10) ∈ xTs := xin_at 291 rfl rfl
set_option maxRecDepth 20000 in
theorem cm_11 : XCm 11 1 := ⟨xin_at 640 rfl rfl, by decide +kernel, by decide +kernel, by decide +kernel, by decide, by decide +kernel, rfl, fun h => absurd h (by decide), rfl, by decide⟩
set_option maxRecDepth 20000 in
theorem im_11 : Cond.instanceMethod (xyn 11) ∈ xTs := xin_at 638 rfl rfl
set_option maxRecDepth 20000 in
theorem cm_12 : XCm 12 1 := ⟨xin_at 571 rfl rfl, by decide +kernel, by decide +kernel, by decide +kernel, by decide, by decide +kernel, rfl, fun h => absurd h (by decide), rfl, by decide⟩
set_option maxRecDepth 20000 in
theorem im_12 : Cond.instanceMethod (xyn 12) ∈ xTs := xin_at 569 rfl rfl
set_option maxRecDepth 20000 in
theorem cm_13 : XCm 13 1 := ⟨xin_at 459 rfl rfl, by decide +kernel, by decide +kernel, by decide +kernel, by decide, by decide +kernel, rfl, fun h => absurd h (by decide), rfl, by decide⟩
set_option maxRecDepth 20000 in
theorem im_13 : Cond.instanceMethod (xyn 13) ∈ xTs := xin_at 457 rfl rfl
set_option maxRecDepth 20000 in
theorem cm_14 : XCm 14 1 := ⟨xin_at 900 rfl rfl, by decide +kernel, by decide +kernel, by decide +kernel, by decide, by decide +kernel, rfl, fun h => absurd h (by decide), rfl, by decide⟩
set_option maxRecDepth 20000 in
theorem im_14 : Cond.instanceMethod (xyn 14) ∈ xTs := xin_at 898 rfl rfl
set_option maxRecDepth 20000 in
theorem cm_15 : XCm 15 1 := ⟨xin_at 644 rfl rfl, by decide +kernel, by decide +kernel, by decide +kernel, by decide, by decide +kernel, rfl, fun h => absurd h (by decide), rfl, by decide⟩
set_option maxRecDepth 20000 in
theorem im_15 : Cond.instanceMethod (xyn 15) ∈ xTs := xin_at 642 rfl rfl
set_option maxRecDepth 20000 in
theorem cm_16 : XCm 16 0 := ⟨xin_at 491 rfl rfl, by decide +kernel, by decide +kernel, by decide +kernel, by decide, by decide +kernel, rfl, fun h => absurd h (by decide), rfl, by decide⟩
set_option maxRecDepth 20000 in
theorem im_16 : Cond.instanceMethod (xyn 16) ∈ xTs := xin_at 489 rfl rfl
set_option maxRecDepth 20000 in
theorem cm_17 : XCm 17 1 := ⟨xin_at 636 rfl rfl, by decide +kernel, by decide +kernel, by decide +kernel, by decide, by decide +kernel, rfl, fun h => absurd h (by decide), rfl, by decide⟩
set_option maxRecDepth 20000 in
theorem im_17 : Cond.instanceMethod (xyn 17) ∈ xTs := xin_at 634 rfl rfl
set_option maxRecDepth 20000 in
theorem cm_18 : XCm 18 2 := ⟨xin_at 854 rfl rfl, by decide +kernel, by decide +kernel, by decide +kernel, by decide, by decide +kernel, rfl, fun h => absurd h (by decide), rfl, by decide⟩
set_option maxRecDepth 20000 in
theorem im_18 : Cond.instanceMethod (xyn 18) ∈ xTs := xin_at 852 rfl rfl
set_option maxRecDepth 20000 in
theorem cm_19 : XCm 19 2 := ⟨xin_at 858 rfl rfl, by decide +kernel, by decide +kernel, by decide +kernel, by decide, by decide +kernel, rfl, fun h => absurd h (by decide), rfl, by decide⟩
set_option maxRecDepth 20000 in
theorem im_19 : Cond.instanceMethod (xyn 19) ∈ xTs := xin_at 856 rfl rfl
set_option maxRecDepth 20000 in
theorem cm_20 : XCm 20 0 := ⟨xin_at 535 rfl rfl, by decide +kernel, by decide +kernel, by decide +kernel, by decide, by decide +kernel, rfl, fun h => absurd h (by decide), rfl, by decide⟩
set_option maxRecDepth 20000 in
theorem im_20 : Cond.instanceMethod (xyn 20) ∈ xTs := xin_at 533 rfl rfl
set_option maxRecDepth 20000 in
theorem cm_21 : XCm 21 0 := ⟨xin_at 547 rfl rfl, by decide +kernel, by decide +kernel, by decide +kernel, by decide, by decide +kernel, rfl, fun h => absurd h (by decide), rfl, by decide⟩
set_option maxRecDepth 20000 in
theorem im_21 : Cond.instanceMethod (xyn 21) ∈ xTs := xin_at 545 rfl rfl
set_option maxRecDepth 20000 in
theorem cm_22 : XCm 22 0 := ⟨xin_at 543 rfl rfl, by decide +kernel, by decide +kernel, by decide +kernel, by decide, by decide +kernel, rfl, fun h => absurd h (by decide), rfl, by decide⟩
set_option maxRecDepth 20000 in
theorem im_22 : Cond.instanceMethod (xyn 22) ∈ xTs := xin_at 541 rfl rfl
set_option maxRecDepth 20000 in
theorem cm_23 : XCm 23 1 := ⟨xin_at 862 rfl rfl, by decide +kernel, by decide +kernel, by decide +kernel, by decide, by decide +kernel, rfl, fun h => absurd h (by decide), rfl, by decide⟩
set_option maxRecDepth 20000 in
theorem im_23 : Cond.instanceMethod (xyn 23) ∈ xTs := xin_at 860 rfl rfl
set_option maxRecDepth 20000 in
theorem cm_24 : XCm 24 0 := ⟨xin_at 84 rfl rfl, by decide +kernel, by decide +kernel, by decide +kernel, by decide, by decide +kernel, rfl, fun _ => rfl, rfl, by decide⟩
set_option maxRecDepth 20000 in
theorem im_24 : Cond.instanceMethod (xyn 24) ∈ xTs := xin_at 83 rfl rfl
set_option maxRecDepth 20000 in
theorem cm_25 : XCm 25 1 := ⟨xin_at 620 rfl rfl, by decide +kernel, by decide +kernel, by decide +kernel, by decide, by decide +kernel, rfl, fun h => absurd h (by decide), rfl, by decide⟩
set_option maxRecDepth 20000 in
theorem im_25 : Cond.instanceMethod (xyn 25) ∈ xTs := xin_at 618 rfl rfl
set_option maxRecDepth 20000 in
theorem cm_26 : XCm 26 1 := ⟨xin_at 624 rfl rfl, by decide +kernel, by decide +kernel, by decide +kernel, by decide, by decide +kernel, rfl, fun h => absurd h (by decide), rfl, by decide⟩
set_option maxRecDepth 20000 in
theorem im_26 : Cond.instanceMethod (xyn 26) ∈ xTs := xin_at 622 rfl rfl
set_option maxRecDepth 20000 in
theorem cm_27 : XCm 27 1 := ⟨xin_at 288 rfl rfl, by decide +kernel, by decide +kernel, by decide +kernel, by decide, by decide +kernel, rfl, fun h => absurd h (by decide), rfl, by decide⟩
set_option maxRecDepth 20000 in
theorem im_27 : Cond.instanceMethod (xyn 27) ∈ xTs := xin_at 286 rfl rfl
set_option maxRecDepth 20000 in
theorem cm_28 : XCm 28 1 := ⟨xin_at 892 rfl rfl, by decide +kernel, by decide +kernel, by decide +kernel, by decide, by decide +kernel, rfl, fun h => absurd h (by decide), rfl, by decide⟩
set_option maxRecDepth 20000 in
theorem im_28 : Cond.instanceMethod (xyn 28) ∈ xTs := xin_at 890 rfl rfl
set_option maxRecDepth 20000 in
theorem cm_29 : XCm 29 2 := ⟨xin_at 129 rfl rfl, by decide +kernel, by decide +kernel, by decide +kernel, by decide, by decide +kernel, rfl, fun _ => rfl, rfl, by decide⟩
set_option maxRecDepth 20000 in
theorem im_29 : Cond.instanceMethod (xyn 29) ∈ xTs := xin_at 128 rfl rfl
set_option maxRecDepth 20000 in
theorem cm_30 : XCm 30 2 := ⟨xin_at 883 rfl rfl, by decide +kernel, by decide +kernel, by decide +kernel, by decide, by decide +kernel, rfl, fun h => absurd h (by decide), rfl, by decide⟩
set_option maxRecDepth 20000 in
theorem im_30 : Cond.instanceMethod (xyn 30) ∈ xTs := xin_at 881 rfl rfl
set_option maxRecDepth 20000 in
theorem cm_31 : XCm 31 2 := ⟨xin_at 887 rfl rfl, by decide +kernel, by decide +kernel, by decide +kernel, by decide, by decide +kernel, rfl, fun h => absurd h (by decide), rfl, by decide⟩
set_option maxRecDepth 20000 in
theorem im_31 : Cond.instanceMethod (xyn 31) ∈ xTs := xin_at 886 rfl rfl
set_option maxRecDepth 20000 in
theorem cm_32 : XCm 32 3 := ⟨xin_at 905 rfl rfl, by decide +kernel, by decide +kernel, by decide +kernel, by decide, by decide +kernel, rfl, fun h => absurd h (by decide), rfl, by decide⟩
set_option maxRecDepth 20000 in
theorem im_32 : Cond.instanceMethod (xyn 32) ∈ xTs := xin_at 904 rfl rfl
set_option maxRecDepth 20000 in
theorem cm_33 : XCm 33 1 := ⟨xin_at 187 rfl rfl, by decide +kernel, by decide +kernel, by decide +kernel, by decide, by decide +kernel, rfl, fun _ => rfl, rfl, by decide⟩
set_option maxRecDepth 20000 in
theorem im_33 : Cond.instanceMethod (xyn 33) ∈ xTs := xin_at 186 rfl rfl
set_option maxRecDepth 20000 in
theorem cm_34 : XCm 34 3 := ⟨xin_at 383 rfl rfl, by decide +kernel, by decide +kernel, by decide +kernel, by decide, by decide +kernel, rfl, fun h => absurd h (by decide), rfl, by decide⟩
set_option maxRecDepth 20000 in
theorem im_34 : Cond.instanceMethod (xyn 34) ∈ xTs := xin_at 381 rfl rfl
set_option maxRecDepth 20000 in
theorem cm_35 : XCm 35 1 := ⟨xin_at 680 rfl rfl, by decide +kernel, by decide +kernel, by decide +kernel, by decide, by decide +kernel, rfl, fun h => absurd h (by decide), rfl, by decide⟩
set_option maxRecDepth 20000 in
theorem im_35 : Cond.instanceMethod (xyn 35) ∈ xTs := xin_at 678 rfl rfl
set_option maxRecDepth 20000 in
theorem cm_36 : XCm 36 2 := ⟨xin_at 515 rfl rfl, by decide +kernel, by decide +kernel, by decide +kernel, by decide, by decide +kernel, rfl, fun h => absurd h (by decide), rfl, by decide⟩
set_option maxRecDepth 20000 in
theorem im_36 : Cond.instanceMethod (xyn 36) ∈ xTs := xin_at 514 rfl rfl
set_option maxRecDepth 20000 in
theorem cm_37 : XCm 37 2 := ⟨xin_at 511 rfl rfl, by decide +kernel, by decide +kernel, by decide +kernel, by decide, by decide +kernel, rfl, fun h => absurd h (by decide), rfl, by decide⟩
set_option maxRecDepth 20000 in
theorem im_37 : Cond.instanceMethod (xyn 37) ∈ xTs := xin_at 509 rfl rfl
set_option maxRecDepth 20000 in
theorem cm_38 : XCm 38 0 := ⟨xin_at 695 rfl rfl, by decide +kernel, by decide +kernel, by decide +kernel, by decide, by decide +kernel, rfl, fun h => absurd h (by decide), rfl, by decide⟩
set_option maxRecDepth 20000 in
theorem im_38 : Cond.instanceMethod (xyn 38) ∈ xTs := xin_at 693 rfl rfl
set_option maxRecDepth 20000 in
theorem cm_39 : XCm 39 1 := ⟨xin_at 1031 rfl rfl, by decide +kernel, by decide +kernel, by decide +kernel, by decide, by decide +kernel, rfl, fun h => absurd h (by decide), rfl, by decide⟩
set_option maxRecDepth 20000 in
theorem im_39 : Cond.instanceMethod (xyn 39) ∈ xTs := xin_at 1029 rfl rfl
set_option maxRecDepth 20000 in
theorem cm_40 : XCm 40 0 := ⟨xin_at 163 rfl rfl, by decide +kernel, by decide +kernel, by decide +kernel, by decide, by decide +kernel, rfl, fun _ => rfl, rfl, by decide⟩
set_option maxRecDepth 20000 in
theorem im_40 : Cond.instanceMethod (xyn 40) ∈ xTs := xin_at 162 rfl rfl
set_option maxRecDepth 20000 in
theorem cm_41 : XCm 41 1 := ⟨xin_at 1010 rfl rfl, by decide +kernel, by decide +kernel, by decide +kernel, by decide, by decide +kernel, rfl, fun h => absurd h (by decide), rfl, by decide⟩
set_option maxRecDepth 20000 in
theorem im_41 : Cond.instanceMethod (xyn 41) ∈ xTs := xin_at 1008 rfl rfl
set_option maxRecDepth 20000 in
theorem cm_42 : XCm 42 1 := ⟨xin_at 1027 rfl rfl, by decide +kernel, by decide +kernel, by decide +kernel, by decide, by decide +kernel, rfl, fun h => absurd h (by decide), rfl, by decide⟩
set_option maxRecDepth 20000 in
theorem im_42 : Cond.instanceMethod (xyn 42) ∈ xTs := xin_at 1025 rfl rfl
set_option maxRecDepth 20000 in
theorem cm_43 : XCm 43 0 := ⟨xin_at 355 rfl rfl, by decide +kernel, by decide +kernel, by decide +kernel, by decide, by decide +kernel, rfl, fun h => absurd h (by decide), rfl, by decide⟩
set_option maxRecDepth 20000 in
theorem im_43 : Cond.instanceMethod (xyn 43) ∈ xTs := xin_at 353 rfl rfl
set_option maxRecDepth 20000 in
theorem cm_44 : XCm 44 0 := ⟨xin_at 359 rfl rfl, by decide +kernel, by decide +kernel, by decide +kernel, by decide, by decide +kernel, rfl, fun h => absurd h (by decide), rfl, by decide⟩
set_option maxRecDepth 20000 in
theorem im_44 : Cond.instanceMethod (xyn 44) ∈ xTs := xin_at 358 rfl rfl
set_option maxRecDepth 20000 in
theorem cm_45 : XCm 45 3 := ⟨xin_at 379 rfl rfl, by decide +kernel, by decide +kernel, by decide +kernel, by decide, by decide +kernel, rfl, fun h => absurd h (by decide), rfl, by decide⟩
set_option maxRecDepth 20000 in
theorem im_45 : Cond.instanceMethod (xyn 45) ∈ xTs := xin_at 378 rfl rfl
set_option maxRecDepth 20000 in
theorem cm_46 : XCm 46 1 := ⟨xin_at 995 rfl rfl, by decide +kernel, by decide +kernel, by decide +kernel, by decide, by decide +kernel, rfl, fun h => absurd h (by decide), rfl, by decide⟩
set_option maxRecDepth 20000 in
theorem im_46 : Cond.instanceMethod (xyn 46) ∈ xTs := xin_at 994 rfl rfl
set_option maxRecDepth 20000 in
theorem cm_47 : XCm 47 2 := ⟨xin_at 1015 rfl rfl, by decide +kernel, by decide +kernel, by decide +kernel, by decide, by decide +kernel, rfl, fun h => absurd h (by decide), rfl, by decide⟩
set_option maxRecDepth 20000 in
theorem im_47 : Cond.instanceMethod (xyn 47) ∈ xTs := xin_at 1013 rfl rfl
set_option maxRecDepth 20000 in
theorem cm_48 : XCm 48 1 := ⟨xin_at 500 rfl rfl, by decide +kernel, by decide +kernel, by decide +kernel, by decide, by decide +kernel, rfl, fun h => absurd h (by decide), rfl, by decide⟩
set_option maxRecDepth 20000 in
theorem im_48 : Cond.instanceMethod (xyn 48) ∈ xTs := xin_at 498 rfl rfl
set_option maxRecDepth 20000 in
theorem cm_49 : XCm 49 1 := ⟨xin_at 504 rfl rfl, by decide +kernel, by decide +kernel, by decide +kernel, by decide, by decide +kernel, rfl, fun h => absurd h (by decide), rfl, by decide⟩
set_option maxRecDepth 20000 in
theorem im_49 : Cond.instanceMethod (xyn 49) ∈ xTs := xin_at 502 rfl rfl
set_option maxRecDepth 20000 in
theorem cm_50 : XCm 50 1 := ⟨xin_at 507 rfl rfl, by decide +kernel, by decide +kernel, by decide +kernel, by decide, by decide +kernel, rfl, fun h => absurd h (by decide), rfl, by decide⟩
set_option maxRecDepth 20000 in
theorem im_50 : Cond.static (xyn 50) ∈ xTs := xin_at 506 rfl rfl
set_option maxRecDepth 20000 in
theorem cm_51 : XCm 51 4 := ⟨xin_at 987 rfl rfl, by decide +kernel, by decide +kernel, by decide +kernel, by decide, by decide +kernel, rfl, fun h => absurd h (by decide), rfl, by decide⟩
set_option maxRecDepth 20000 in
theorem im_51 : Cond.instanceMethod (xyn 51) ∈ xTs := xin_at 985 rfl rfl
set_option maxRecDepth 20000 in
theorem cm_52 : XCm 52 4 := ⟨xin_at 999 rfl rfl, by decide +kernel, by decide +kernel, by decide +kernel, by decide, by decide +kernel, rfl, fun h => absurd h (by decide), rfl, by decide⟩
set_option maxRecDepth 20000 in
theorem im_52 : Cond.instanceMethod (xyn 52) ∈ xTs := xin_at 998 rfl rfl
set_option maxRecDepth 20000 in
theorem cm_53 : XCm 53 2 := ⟨xin_at 991 rfl rfl, by decide +kernel, by decide +kernel, by decide +kernel, by decide, by decide +kernel, rfl, fun h => absurd h (by decide), rfl, by decide⟩
set_option maxRecDepth 20000 in
theorem im_53 : Cond.instanceMethod (xyn 53) ∈ xTs := xin_at 990 rfl rfl
set_option maxRecDepth 20000 in
theorem cm_54 : XCm 54 2 := ⟨xin_at 698 rfl rfl, by decide +kernel, by decide +kernel, by decide +kernel, by decide, by decide +kernel, rfl, fun h => absurd h (by decide), rfl, by decide⟩
set_option maxRecDepth 20000 in
theorem im_54 : Cond.static (xyn 54) ∈ xTs := xin_at 697 rfl rfl
set_option maxRecDepth 20000 in
theorem cm_55 : XCm 55 1 := ⟨xin_at 687 rfl rfl, by decide +kernel, by decide +kernel, by decide +kernel, by decide, by decide +kernel, rfl, fun h => absurd h (by decide), rfl, by decide⟩
set_option maxRecDepth 20000 in
theorem im_55 : Cond.instanceMethod (xyn 55) ∈ xTs := xin_at 685 rfl rfl
set_option maxRecDepth 20000 in
theorem cm_56 : XCm 56 1 := ⟨xin_at 691 rfl rfl, by decide +kernel, by decide +kernel, by decide +kernel, by decide, by decide +kernel, rfl, fun h => absurd h (by decide), rfl, by decide⟩
set_option maxRecDepth 20000 in
theorem im_56 : Cond.instanceMethod (xyn 56) ∈ xTs := xin_at 690 rfl rfl
set_option maxRecDepth 20000 in
theorem cm_57 : XCm 57 0 := ⟨xin_at 173 rfl rfl, by decide +kernel, by decide +kernel, by decide +kernel, by decide, by decide +kernel, rfl, fun _ => rfl, rfl, by decide⟩
set_option maxRecDepth 20000 in
theorem im_57 : Cond.instanceMethod (xyn 57) ∈ xTs := xin_at 172 rfl rfl
set_option maxRecDepth 20000 in
theorem cm_58 : XCm 58 2 := ⟨xin_at 672 rfl rfl, by decide +kernel, by decide +kernel, by decide +kernel, by decide, by decide +kernel, rfl, fun h => absurd h (by decide), rfl, by decide⟩
set_option maxRecDepth 20000 in
theorem im_58 : Cond.instanceMethod (xyn 58) ∈ xTs := xin_at 670 rfl rfl
set_option maxRecDepth 20000 in
theorem cm_59 : XCm 59 1 := ⟨xin_at 683 rfl rfl, by decide +kernel, by decide +kernel, by decide +kernel, by decide, by decide +kernel, rfl, fun h => absurd h (by decide), rfl, by decide⟩
set_option maxRecDepth 20000 in
theorem im_59 : Cond.static (xyn 59) ∈ xTs := xin_at 682 rfl rfl
set_option maxRecDepth 20000 in
theorem cm_60 : XCm 60 2 := ⟨xin_at 676 rfl rfl, by decide +kernel, by decide +kernel, by decide +kernel, by decide, by decide +kernel, rfl, fun h => absurd h (by decide), rfl, by decide⟩
set_option maxRecDepth 20000 in
theorem im_60 : Cond.instanceMethod (xyn 60) ∈ xTs := xin_at 675 rfl rfl
set_option maxRecDepth 20000 in
theorem cm_61 : XCm 61 0 := ⟨xin_at 707 rfl rfl, by decide +kernel, by decide +kernel, by decide +kernel, by decide, by decide +kernel, rfl, fun h => absurd h (by decide), rfl, by decide⟩
set_option maxRecDepth 20000 in
theorem im_61 : Cond.instanceMethod (xyn 61) ∈ xTs := xin_at 705 rfl rfl
set_option maxRecDepth 20000 in
theorem cm_62 : XCm 62 2 := ⟨xin_at 256 rfl rfl, by decide +kernel, by decide +kernel, by decide +kernel, by decide, by decide +kernel, rfl, fun _ => rfl, rfl, by decide⟩
set_option maxRecDepth 20000 in
theorem im_62 : Cond.instanceMethod (xyn 62) ∈ xTs := xin_at 255 rfl rfl
set_option maxRecDepth 20000 in
theorem cm_63 : XCm 63 1 := ⟨xin_at 579 rfl rfl, by decide +kernel, by decide +kernel, by decide +kernel, by decide, by decide +kernel, rfl, fun h => absurd h (by decide), rfl, by decide⟩
set_option maxRecDepth 20000 in
theorem im_63 : Cond.instanceMethod (xyn 63) ∈ xTs := xin_at 577 rfl rfl
set_option maxRecDepth 20000 in
theorem cm_64 : XCm 64 0 := ⟨xin_at 455 rfl rfl, by decide +kernel, by decide +kernel, by decide +kernel, by decide, by decide +kernel, rfl, fun h => absurd h (by decide), rfl, by decide⟩
set_option maxRecDepth 20000 in
theorem im_64 : Cond.instanceMethod (xyn 64) ∈ xTs := xin_at 453 rfl rfl
set_option maxRecDepth 20000 in
theorem cm_65 : XCm 65 1 := ⟨xin_at 451 rfl rfl, by decide +kernel, by decide +kernel, by decide +kernel, by decide, by decide +kernel, rfl, fun h => absurd h (by decide), rfl, by decide⟩
set_option maxRecDepth 20000 in
theorem im_65 : Cond.instanceMethod (xyn 65) ∈ xTs := xin_at 449 rfl rfl
set_option maxRecDepth 20000 in
theorem cm_66 : XCm 66 1 := ⟨xin_at 587 rfl rfl, by decide +kernel, by decide +kernel, by decide +kernel, by decide, by decide +kernel, rfl, fun h => absurd h (by decide), rfl, by decide⟩
set_option maxRecDepth 20000 in
theorem im_66 : Cond.instanceMethod (xyn 66) ∈ xTs := xin_at 585 rfl rfl
set_option maxRecDepth 20000 in
theorem cm_67 : XCm 67 1 := ⟨xin_at 607 rfl rfl, by decide +kernel, by decide +kernel, by decide +kernel, by decide, by decide +kernel, rfl, fun h => absurd h (by decide), rfl, by decide⟩
set_option maxRecDepth 20000 in
theorem im_67 : Cond.instanceMethod (xyn 67) ∈ xTs := xin_at 605 rfl rfl
set_option maxRecDepth 20000 in
theorem cm_68 : XCm 68 1 := ⟨xin_at 790 rfl rfl, by decide +kernel, by decide +kernel, by decide +kernel, by decide, by decide +kernel, rfl, fun h => absurd h (by decide), rfl, by decide⟩
set_option maxRecDepth 20000 in
theorem im_68 : Cond.instanceMethod (xyn 68) ∈ xTs := xin_at 788 rfl rfl
set_option maxRecDepth 20000 in
theorem cm_69 : XCm 69 5 := ⟨xin_at 391 rfl rfl, by decide +kernel, by decide +kernel, by decide +kernel, by decide, by decide +kernel, rfl, fun _ => rfl, rfl, by decide⟩
set_option maxRecDepth 20000 in
theorem im_69 : Cond.instanceMethod (xyn 69) ∈ xTs := xin_at 390 rfl rfl
set_option maxRecDepth 20000 in
theorem cm_70 : XCm 70 0 := ⟨xin_at 527 rfl rfl, by decide +kernel, by decide +kernel, by decide +kernel, by decide, by decide +kernel, rfl, fun h => absurd h (by decide), rfl, by decide⟩
set_option maxRecDepth 20000 in
theorem im_70 : Cond.instanceMethod (xyn 70) ∈ xTs := xin_at 525 rfl rfl
set_option maxRecDepth 20000 in
theorem cm_71 : XCm 71 0 := ⟨xin_at 913 rfl rfl, by decide +kernel, by decide +kernel, by decide +kernel, by decide, by decide +kernel, rfl, fun h => absurd h (by decide), rfl, by decide⟩
set_option maxRecDepth 20000 in
theorem im_71 : Cond.instanceMethod (xyn 71) ∈ xTs := xin_at 911 rfl rfl
set_option maxRecDepth 20000 in
theorem cm_72 : XCm 72 0 := ⟨xin_at 918 rfl rfl, by decide +kernel, by decide +kernel, by decide +kernel, by decide, by decide +kernel, rfl, fun h => absurd h (by decide), rfl, by decide⟩
set_option maxRecDepth 20000 in
theorem im_72 : Cond.instanceMethod (xyn 72) ∈ xTs := xin_at 916 rfl rfl
set_option maxRecDepth 20000 in
theorem cm_73 : XCm 73 0 := ⟨xin_at 595 rfl rfl, by decide +kernel, by decide +kernel, by decide +kernel, by decide, by decide +kernel, rfl, fun h => absurd h (by decide), rfl, by decide⟩
set_option maxRecDepth 20000 in
theorem im_73 : Cond.instanceMethod (xyn 73) ∈ xTs := xin_at 593 rfl rfl
set_option maxRecDepth 20000 in
theorem cm_74 : XCm 74 0 := ⟨xin_at 567 rfl rfl, by decide +kernel, by decide +kernel, by decide +kernel, by decide, by decide +kernel, rfl, fun h => absurd h (by decide), rfl, by decide⟩
set_option maxRecDepth 20000 in
theorem im_74 : Cond.instanceMethod (xyn 74) ∈ xTs := xin_at 565 rfl rfl
set_option maxRecDepth 20000 in
theorem cm_75 : XCm 75 1 := ⟨xin_at 923 rfl rfl, by decide +kernel, by decide +kernel, by decide +kernel, by decide, by decide +kernel, rfl, fun h => absurd h (by decide), rfl, by decide⟩
set_option maxRecDepth 20000 in
theorem im_75 : Cond.instanceMethod (xyn 75) ∈ xTs := xin_at 921 rfl rfl
set_option maxRecDepth 20000 in
theorem cm_76 : XCm 76 1 := ⟨xin_at 648 rfl rfl, by decide +kernel, by decide +kernel, by decide +kernel, by decide, by decide +kernel, rfl, fun h => absurd h (by decide), rfl, by decide⟩
set_option maxRecDepth 20000 in
theorem im_76 : Cond.instanceMethod (xyn 76) ∈ xTs := xin_at 646 rfl rfl
set_option maxRecDepth 20000 in
theorem cm_77 : XCm 77 0 := ⟨xin_at 583 rfl rfl, by decide +kernel, by decide +kernel, by decide +kernel, by decide, by decide +kernel, rfl, fun h => absurd h (by decide), rfl, by decide⟩
set_option maxRecDepth 20000 in
theorem im_77 : Cond.instanceMethod (xyn 77) ∈ xTs := xin_at 581 rfl rfl
set_option maxRecDepth 20000 in
theorem cm_78 : XCm 78 1 := ⟨xin_at 809 rfl rfl, by decide +kernel, by decide +kernel, by decide +kernel, by decide, by decide +kernel, rfl, fun h => absurd h (by decide), rfl, by decide⟩
set_option maxRecDepth 20000 in
theorem im_78 : Cond.instanceMethod (xyn 78) ∈ xTs := xin_at 807 rfl rfl
set_option maxRecDepth 20000 in
theorem cm_79 : XCm 79 0 := ⟨xin_at 102 rfl rfl, by decide +kernel, by decide +kernel, by decide +kernel, by decide, by decide +kernel, rfl, fun _ => rfl, rfl, by decide⟩
set_option maxRecDepth 20000 in
theorem im_79 : Cond.instanceMethod (xyn 79) ∈ xTs := xin_at 101 rfl rfl
set_option maxRecDepth 20000 in
theorem cm_80 : XCm 80 1 := ⟨xin_at 487 rfl rfl, by decide +kernel, by decide +kernel, by decide +kernel, by decide, by decide +kernel, rfl, fun h => absurd h (by decide), rfl, by decide⟩
set_option maxRecDepth 20000 in
theorem im_80 : Cond.instanceMethod (xyn 80) ∈ xTs := xin_at 485 rfl rfl
set_option maxRecDepth 20000 in
theorem cm_81 : XCm 81 1 := ⟨xin_at 483 rfl rfl, by decide +kernel, by decide +kernel, by decide +kernel, by decide, by decide +kernel, rfl, fun h => absurd h (by decide), rfl, by decide⟩
set_option maxRecDepth 20000 in
theorem im_81 : Cond.instanceMethod (xyn 81) ∈ xTs := xin_at 481 rfl rfl
set_option maxRecDepth 20000 in
theorem cm_82 : XCm 82 1 := ⟨xin_at 719 rfl rfl, by decide +kernel, by decide +kernel, by decide +kernel, by decide, by decide +kernel, rfl, fun h => absurd h (by decide), rfl, by decide⟩
set_option maxRecDepth 20000 in
theorem im_82 : Cond.instanceMethod (xyn 82) ∈ xTs := xin_at 717 rfl rfl
set_option maxRecDepth 20000 in
theorem cm_83 : XCm 83 1 := ⟨xin_at 820 rfl rfl, by decide +kernel, by decide +kernel, by decide +kernel, by decide, by decide +kernel, rfl, fun h => absurd h (by decide), rfl, by decide⟩
set_option maxRecDepth 20000 in
theorem im_83 : Cond.instanceMethod (xyn 83) ∈ xTs := xin_at 818 rfl rfl
set_option maxRecDepth 20000 in
theorem cm_84 : XCm 84 2 := ⟨xin_at 495 rfl rfl, by decide +kernel, by decide +kernel, by decide +kernel, by decide, by decide +kernel, rfl, fun h => absurd h (by decide), rfl, by decide⟩
set_option maxRecDepth 20000 in
theorem im_84 : Cond.instanceMethod (xyn 84) ∈ xTs := xin_at 493 rfl rfl
set_option maxRecDepth 20000 in
theorem cm_85 : XCm 85 1 := ⟨xin_at 252 rfl rfl, by decide +kernel, by decide +kernel, by decide +kernel, by decide, by decide +kernel, rfl, fun h => absurd h (by decide), rfl, by decide⟩
set_option maxRecDepth 20000 in
theorem im_85 : Cond.instanceMethod (xyn 85) ∈ xTs := xin_at 250 rfl rfl
set_option maxRecDepth 20000 in
theorem cm_86 : XCm 86 4 := ⟨xin_at 387 rfl rfl, by decide +kernel, by decide +kernel, by decide +kernel, by decide, by decide +kernel, rfl, fun h => absurd h (by decide), rfl, by decide⟩
set_option maxRecDepth 20000 in
theorem im_86 : Cond.instanceMethod (xyn 86) ∈ xTs := xin_at 385 rfl rfl
set_option maxRecDepth 20000 in
theorem cm_87 : XCm 87 1 := ⟨xin_at 559 rfl rfl, by decide +kernel, by decide +kernel, by decide +kernel, by decide, by decide +kernel, rfl, fun h => absurd h (by decide), rfl, by decide⟩
set_option maxRecDepth 20000 in
theorem im_87 : Cond.instanceMethod (xyn 87) ∈ xTs := xin_at 557 rfl rfl
set_option maxRecDepth 20000 in
theorem cm_88 : XCm 88 1 := ⟨xin_at 563 rfl rfl, by decide +kernel, by decide +kernel, by decide +kernel, by decide, by decide +kernel, rfl, fun h => absurd h (by decide), rfl, by decide⟩
set_option maxRecDepth 20000 in
theorem im_88 : Cond.instanceMethod (xyn 88) ∈ xTs := xin_at 562 rfl rfl
set_option maxRecDepth 20000 in
theorem cm_89 : XCm 89 1 := ⟨xin_at 575 rfl rfl, by decide +kernel, by decide +kernel, by decide +kernel, by decide, by decide +kernel, rfl, fun h => absurd h (by decide), rfl, by decide⟩
set_option maxRecDepth 20000 in
theorem im_89 : Cond.instanceMethod (xyn 89) ∈ xTs := xin_at 574 rfl rfl
set_option maxRecDepth 20000 in
theorem cm_90 : XCm 90 0 := ⟨xin_at 591 rfl rfl, by decide +kernel, by decide +kernel, by decide +kernel, by decide, by decide +kernel, rfl, fun h => absurd h (by decide), rfl, by decide⟩
set_option maxRecDepth 20000 in
theorem im_90 : Cond.instanceMethod (xyn 90) ∈ xTs := xin_at 590 rfl rfl
set_option maxRecDepth 20000 in
theorem cm_91 : XCm 91 1 := ⟨xin_at 603 rfl rfl, by decide +kernel, by decide +kernel, by decide +kernel, by decide, by decide +kernel, rfl, fun h => absurd h (by decide), rfl, by decide⟩
set_option maxRecDepth 20000 in
theorem im_91 : Cond.instanceMethod (xyn 91) ∈ xTs := xin_at 601 rfl rfl
set_option maxRecDepth 20000 in
theorem cm_92 : XCm 92 1 := ⟨xin_at 909 rfl rfl, by decide +kernel, by decide +kernel, by decide +kernel, by decide, by decide +kernel, rfl, fun h => absurd h (by decide), rfl, by decide⟩
set_option maxRecDepth 20000 in
theorem im_92 : Cond.instanceMethod (xyn 92) ∈ xTs := xin_at 907 rfl rfl
set_option maxRecDepth 20000 in
theorem cm_93 : XCm 93 1 := ⟨xin_at 363 rfl rfl, by decide +kernel, by decide +kernel, by decide +kernel, by decide, by decide +kernel, rfl, fun _ => rfl, rfl, by decide⟩
set_option maxRecDepth 20000 in
theorem im_93 : Cond.instanceMethod (xyn 93) ∈ xTs := xin_at 362 rfl rfl
set_option maxRecDepth 20000 in
theorem cm_94 : XCm 94 0 := ⟨xin_at 76 rfl rfl, by decide +kernel, by decide +kernel, by decide +kernel, by decide, by decide +kernel, rfl, fun _ => rfl, rfl, by decide⟩
set_option maxRecDepth 20000 in
theorem im_94 : Cond.instanceMethod (xyn 94) ∈ xTs := xin_at 75 rfl rfl
set_option maxRecDepth 20000 in
theorem cm_95 : XCm 95 3 := ⟨xin_at 479 rfl rfl, by decide +kernel, by decide +kernel, by decide +kernel, by decide, by decide +kernel, rfl, fun h => absurd h (by decide), rfl, by decide⟩
set_option maxRecDepth 20000 in
theorem im_95 : Cond.instanceMethod (xyn 95) ∈ xTs := xin_at 477 rfl rfl
set_option maxRecDepth 20000 in
theorem cm_96 : XCm 96 1 := ⟨xin_at 555 rfl rfl, by decide +kernel, by decide +kernel, by decide +kernel, by decide, by decide +kernel, rfl, fun h => absurd h (by decide), rfl, by decide⟩
set_option maxRecDepth 20000 in
theorem im_96 : Cond.instanceMethod (xyn 96) ∈ xTs := xin_at 553 rfl rfl
set_option maxRecDepth 20000 in
theorem cm_97 : XCm 97 1 := ⟨xin_at 599 rfl rfl, by decide +kernel, by decide +kernel, by decide +kernel, by decide, by decide +kernel, rfl, fun h => absurd h (by decide), rfl, by decide⟩
set_option maxRecDepth 20000 in
theorem im_97 : Cond.instanceMethod (xyn 97) ∈ xTs := xin_at 597 rfl rfl
set_option maxRecDepth 20000 in
theorem cm_98 : XCm 98 2 := ⟨xin_at 611 rfl rfl, by decide +kernel, by decide +kernel, by decide +kernel, by decide, by decide +kernel, rfl, fun h => absurd h (by decide), rfl, by decide⟩
set_option maxRecDepth 20000 in
theorem im_98 : Cond.instanceMethod (xyn 98) ∈ xTs := xin_at 609 rfl rfl
set_option maxRecDepth 20000 in
theorem cm_99 : XCm 99 2 := ⟨xin_at 715 rfl rfl, by decide +kernel, by decide +kernel, by decide +kernel, by decide, by decide +kernel, rfl, fun h => absurd h (by decide), rfl, by decide⟩
set_option maxRecDepth 20000 in
theorem im_99 : Cond.instanceMethod (xyn 99) ∈ xTs := xin_at 713 rfl rfl
set_option maxRecDepth 20000 in
theorem cm_100 : XCm 100 2 := ⟨xin_at 797 rfl rfl, by decide +kernel, by decide +kernel, by decide +kernel, by decide, by decide +kernel, rfl, fun h => absurd h (by decide), rfl, by decide⟩
set_option maxRecDepth 20000 in
theorem im_100 : Cond.instanceMethod (xyn 100) ∈ xTs := xin_at 795 rfl rfl
set_option maxRecDepth 20000 in
theorem cm_101 : XCm 101 2 := ⟨xin_at 804 rfl rfl, by decide +kernel, by decide +kernel, by decide +kernel, by decide, by decide +kernel, rfl, fun h => absurd h (by decide), rfl, by decide⟩
set_option maxRecDepth 20000 in
theorem im_101 : Cond.instanceMethod (xyn 101) ∈ xTs := xin_at 802 rfl rfl
set_option maxRecDepth 20000 in
theorem cm_102 : XCm 102 1 := ⟨xin_at 816 rfl rfl, by decide +kernel, by decide +kernel, by decide +kernel, by decide, by decide +kernel, rfl, fun h => absurd h (by decide), rfl, by decide⟩
set_option maxRecDepth 20000 in
theorem im_102 : Cond.instanceMethod (xyn 102) ∈ xTs := xin_at 814 rfl rfl
set_option maxRecDepth 20000 in
theorem cm_103 : XCm 103 1 := ⟨xin_at 616 rfl rfl, by decide +kernel, by decide +kernel, by decide +kernel, by decide, by decide +kernel, rfl, fun h => absurd h (by decide), rfl, by decide⟩
set_option maxRecDepth 20000 in
theorem im_103 : Cond.instanceMethod (xyn 103) ∈ xTs := xin_at 614 rfl rfl
set_option maxRecDepth 20000 in
theorem cm_104 : XCm 104 3 := ⟨xin_at 829 rfl rfl, by decide +kernel, by decide +kernel, by decide +kernel, by decide, by decide +kernel, rfl, fun h => absurd h (by decide), rfl, by decide⟩
set_option maxRecDepth 20000 in
theorem im_104 : Cond.instanceMethod (xyn 104) ∈ xTs := xin_at 827 rfl rfl
set_option maxRecDepth 20000 in
theorem cm_105 : XCm 105 2 := ⟨xin_at 869 rfl rfl, by decide +kernel, by decide +kernel, by decide +kernel, by decide, by decide +kernel, rfl, fun h => absurd h (by decide), rfl, by decide⟩
set_option maxRecDepth 20000 in
theorem im_105 : Cond.instanceMethod (xyn 105) ∈ xTs := xin_at 867 rfl rfl
set_option maxRecDepth 20000 in
theorem cm_106 : XCm 106 2 := ⟨xin_at 877 rfl rfl, by decide +kernel, by decide +kernel, by decide +kernel, by decide, by decide +kernel, rfl, fun h => absurd h (by decide), rfl, by decide⟩
set_option maxRecDepth 20000 in
theorem im_106 : Cond.instanceMethod (xyn 106) ∈ xTs := xin_at 875 rfl rfl
set_option maxRecDepth 20000 in
theorem cm_107 : XCm 107 2 := ⟨xin_at 930 rfl rfl, by decide +kernel, by decide +kernel, by decide +kernel, by decide, by decide +kernel, rfl, fun h => absurd h (by decide), rfl, by decide⟩
set_option maxRecDepth 20000 in
theorem im_107 : Cond.instanceMethod (xyn 107) ∈ xTs := xin_at 928 rfl rfl
set_option maxRecDepth 20000 in
theorem cm_108 : XCm 108 2 := ⟨xin_at 938 rfl rfl, by decide +kernel, by decide +kernel, by decide +kernel, by decide, by decide +kernel, rfl, fun h => absurd h (by decide), rfl, by decide⟩
set_option maxRecDepth 20000 in
theorem im_108 : Cond.instanceMethod (xyn 108) ∈ xTs := xin_at 936 rfl rfl
set_option maxRecDepth 20000 in
theorem cm_109 : XCm 109 2 := ⟨xin_at 632 rfl rfl, by decide +kernel, by decide +kernel, by decide +kernel, by decide, by decide +kernel, rfl, fun h => absurd h (by decide), rfl, by decide⟩
set_option maxRecDepth 20000 in
theorem im_109 : Cond.instanceMethod (xyn 109) ∈ xTs := xin_at 630 rfl rfl
set_option maxRecDepth 20000 in
theorem cm_110 : XCm 110 2 := ⟨xin_at 946 rfl rfl, by decide +kernel, by decide +kernel, by decide +kernel, by decide, by decide +kernel, rfl, fun h => absurd h (by decide), rfl, by decide⟩
set_option maxRecDepth 20000 in
theorem im_110 : Cond.instanceMethod (xyn 110) ∈ xTs := xin_at 944 rfl rfl
set_option maxRecDepth 20000 in
theorem cm_111 : XCm 111 1 := ⟨xin_at 954 rfl rfl, by decide +kernel, by decide +kernel, by decide +kernel, by decide, by decide +kernel, rfl, fun h => absurd h (by decide), rfl, by decide⟩
set_option maxRecDepth 20000 in
theorem im_111 : Cond.instanceMethod (xyn 111) ∈ xTs := xin_at 952 rfl rfl
set_option maxRecDepth 20000 in
theorem cm_112 : XCm 112 2 := ⟨xin_at 654 rfl rfl, by decide +kernel, by decide +kernel, by decide +kernel, by decide, by decide +kernel, rfl, fun h => absurd h (by decide), rfl, by decide⟩
set_option maxRecDepth 20000 in
theorem im_112 : Cond.instanceMethod (xyn 112) ∈ xTs := xin_at 652 rfl rfl
set_option maxRecDepth 20000 in
theorem cm_113 : XCm 113 1 := ⟨xin_at 658 rfl rfl, by decide +kernel, by decide +kernel, by decide +kernel, by decide, by decide +kernel, rfl, fun h => absurd h (by decide), rfl, by decide⟩
set_option maxRecDepth 20000 in
theorem im_113 : Cond.instanceMethod (xyn 113) ∈ xTs := xin_at 656 rfl rfl
set_option maxRecDepth 20000 in
theorem cm_114 : XCm 114 2 := ⟨xin_at 663 rfl rfl, by decide +kernel, by decide +kernel, by decide +kernel, by decide, by decide +kernel, rfl, fun h => absurd h (by decide), rfl, by decide⟩
set_option maxRecDepth 20000 in
theorem im_114 : Cond.instanceMethod (xyn 114) ∈ xTs := xin_at 661 rfl rfl
set_option maxRecDepth 20000 in
theorem cm_115 : XCm 115 4 := ⟨xin_at 982 rfl rfl, by decide +kernel, by decide +kernel, by decide +kernel, by decide, by decide +kernel, rfl, fun h => absurd h (by decide), rfl, by decide⟩
set_option maxRecDepth 20000 in
theorem im_115 : Cond.instanceMethod (xyn 115) ∈ xTs := xin_at 980 rfl rfl
set_option maxRecDepth 20000 in
theorem cm_116 : XCm 116 2 := ⟨xin_at 668 rfl rfl, by decide +kernel, by decide +kernel, by decide +kernel, by decide, by decide +kernel, rfl, fun h => absurd h (by decide), rfl, by decide⟩
set_option maxRecDepth 20000 in
theorem im_116 : Cond.instanceMethod (xyn 116) ∈ xTs := xin_at 666 rfl rfl
set_option maxRecDepth 20000 in
theorem cm_117 : XCm 117 2 := ⟨xin_at 703 rfl rfl, by decide +kernel, by decide +kernel, by decide +kernel, by decide, by decide +kernel, rfl, fun h => absurd h (by decide), rfl, by decide⟩
set_option maxRecDepth 20000 in
theorem im_117 : Cond.instanceMethod (xyn 117) ∈ xTs := xin_at 701 rfl rfl
set_option maxRecDepth 20000 in
theorem cm_118 : XCm 118 2 := ⟨xin_at 1006 rfl rfl, by decide +kernel, by decide +kernel, by decide +kernel, by decide, by decide +kernel, rfl, fun h => absurd h (by decide), rfl, by decide⟩
set_option maxRecDepth 20000 in
theorem im_118 : Cond.instanceMethod (xyn 118) ∈ xTs := xin_at 1004 rfl rfl
set_option maxRecDepth 20000 in
theorem cm_119 : XCm 119 2 := ⟨xin_at 1022 rfl rfl, by decide +kernel, by decide +kernel, by decide +kernel, by decide, by decide +kernel, rfl, fun h => absurd h (by decide), rfl, by decide⟩
set_option maxRecDepth 20000 in
theorem im_119 : Cond.instanceMethod (xyn 119) ∈ xTs := xin_at 1020 rfl rfl
set_option maxRecDepth 20000 in
theorem cm_120 : XCm 120 0 := ⟨xin_at 1036 rfl rfl, by decide +kernel, by decide +kernel, by decide +kernel, by decide, by decide +kernel, rfl, fun _ => rfl, rfl, by decide⟩
set_option maxRecDepth 20000 in
theorem im_120 : Cond.instanceMethod (xyn 120) ∈ xTs := xin_at 1035 rfl rfl
set_option maxRecDepth 20000 in
theorem cm_121 : XCm 121 0 := ⟨xin_at 1177 rfl rfl, by decide +kernel, by decide +kernel, by decide +kernel, by decide, by decide +kernel, rfl, fun h => absurd h (by decide), rfl, by decide⟩
set_option maxRecDepth 20000 in
theorem im_121 : Cond.instanceMethod (xyn 121) ∈ xTs := xin_at 1175 rfl rfl
set_option maxRecDepth 20000 in
theorem cm_122 : XCm 122 3 := ⟨xin_at 1192 rfl rfl, by decide +kernel, by decide +kernel, by decide +kernel, by decide, by decide +kernel, rfl, fun h => absurd h (by decide), rfl, by decide⟩
set_option maxRecDepth 20000 in
theorem im_122 : Cond.static (xyn 122) ∈ xTs := xin_at 1191 rfl rfl
set_option maxRecDepth 20000 in
theorem cm_123 : XCm 123 1 := ⟨xin_at 1189 rfl rfl, by decide +kernel, by decide +kernel, by decide +kernel, by decide, by decide +kernel, rfl, fun h => absurd h (by decide), rfl, by decide⟩
set_option maxRecDepth 20000 in
theorem im_123 : Cond.instanceMethod (xyn 123) ∈ xTs := xin_at 1188 rfl rfl
set_option maxRecDepth 20000 in
theorem cm_124 : XCm 124 1 := ⟨xin_at 1185 rfl rfl, by decide +kernel, by decide +kernel, by decide +kernel, by decide, by decide +kernel, rfl, fun h => absurd h (by decide), rfl, by decide⟩
set_option maxRecDepth 20000 in
theorem im_124 : Cond.instanceMethod (xyn 124) ∈ xTs := xin_at 1184 rfl rfl
set_option maxRecDepth 20000 in
theorem cm_125 : XCm 125 1 := ⟨xin_at 1296 rfl rfl, by decide +kernel, by decide +kernel, by decide +kernel, by decide, by decide +kernel, rfl, fun h => absurd h (by decide), rfl, by decide⟩
set_option maxRecDepth 20000 in
theorem im_125 : Cond.instanceMethod (xyn 125) ∈ xTs := xin_at 1295 rfl rfl
set_option maxRecDepth 20000 in
theorem cm_126 : XCm 126 2 := ⟨xin_at 1257 rfl rfl, by decide +kernel, by decide +kernel, by decide +kernel, by decide, by decide +kernel, rfl, fun h => absurd h (by decide), rfl, by decide⟩
set_option maxRecDepth 20000 in
theorem im_126 : Cond.instanceMethod (xyn 126) ∈ xTs := xin_at 1256 rfl rfl
set_option maxRecDepth 20000 in
theorem cm_127 : XCm 127 2 := ⟨xin_at 1200 rfl rfl, by decide +kernel, by decide +kernel, by decide +kernel, by decide, by decide +kernel, rfl, fun h => absurd h (by decide), rfl, by decide⟩
set_option maxRecDepth 20000 in
theorem im_127 : Cond.instanceMethod (xyn 127) ∈ xTs := xin_at 1199 rfl rfl
set_option maxRecDepth 20000 in
theorem cm_128 : XCm 128 2 := ⟨xin_at 1220 rfl rfl, by decide +kernel, by decide +kernel, by decide +kernel, by decide, by decide +kernel, rfl, fun h => absurd h (by decide), rfl, by decide⟩
set_option maxRecDepth 20000 in
theorem im_128 : Cond.instanceMethod (xyn 128) ∈ xTs := xin_at 1219 rfl rfl
set_option maxRecDepth 20000 in
theorem cm_129 : XCm 129 1 := ⟨xin_at 1216 rfl rfl, by decide +kernel, by decide +kernel, by decide +kernel, by decide, by decide +kernel, rfl, fun h => absurd h (by decide), rfl, by decide⟩
set_option maxRecDepth 20000 in
theorem im_129 : Cond.instanceMethod (xyn 129) ∈ xTs := xin_at 1215 rfl rfl
set_option maxRecDepth 20000 in
theorem cm_130 : XCm 130 1 := ⟨xin_at 1204 rfl rfl, by decide +kernel, by decide +kernel, by decide +kernel, by decide, by decide +kernel, rfl, fun h => absurd h (by decide), rfl, by decide⟩
set_option maxRecDepth 20000 in
theorem im_130 : Cond.instanceMethod (xyn 130) ∈ xTs := xin_at 1203 rfl rfl
set_option maxRecDepth 20000 in
theorem cm_131 : XCm 131 0 := ⟨xin_at 1212 rfl rfl, by decide +kernel, by decide +kernel, by decide +kernel, by decide, by decide +kernel, rfl, fun h => absurd h (by decide), rfl, by decide⟩
set_option maxRecDepth 20000 in
theorem im_131 : Cond.instanceMethod (xyn 131) ∈ xTs := xin_at 1211 rfl rfl
set_option maxRecDepth 20000 in
theorem cm_132 : XCm 132 1 := ⟨xin_at 1208 rfl rfl, by decide +kernel, by decide +kernel, by decide +kernel, by decide, by decide +kernel, rfl, fun h => absurd h (by decide), rfl, by decide⟩
set_option maxRecDepth 20000 in
theorem im_132 : Cond.instanceMethod (xyn 132) ∈ xTs := xin_at 1207 rfl rfl
set_option maxRecDepth 20000 in
theorem cm_133 : XCm 133 3 := ⟨xin_at 1181 rfl rfl, by decide +kernel, by decide +kernel, by decide +kernel, by decide, by decide +kernel, rfl, fun h => absurd h (by decide), rfl, by decide⟩
set_option maxRecDepth 20000 in
theorem im_133 : Cond.instanceMethod (xyn 133) ∈ xTs := xin_at 1179 rfl rfl
set_option maxRecDepth 20000 in
theorem cm_134 : XCm 134 1 := ⟨xin_at 1261 rfl rfl, by decide +kernel, by decide +kernel, by decide +kernel, by decide, by decide +kernel, rfl, fun h => absurd h (by decide), rfl, by decide⟩
set_option maxRecDepth 20000 in
theorem im_134 : Cond.instanceMethod (xyn 134) ∈ xTs := xin_at 1260 rfl rfl
set_option maxRecDepth 20000 in
theorem cm_135 : XCm 135 1 := ⟨xin_at 1253 rfl rfl, by decide +kernel, by decide +kernel, by decide +kernel, by decide, by decide +kernel, rfl, fun h => absurd h (by decide), rfl, by decide⟩
set_option maxRecDepth 20000 in
theorem im_135 : Cond.instanceMethod (xyn 135) ∈ xTs := xin_at 1252 rfl rfl
set_option maxRecDepth 20000 in
theorem cm_136 : XCm 136 1 := ⟨xin_at 1249 rfl rfl, by decide +kernel, by decide +kernel, by decide +kernel, by decide, by decide +kernel, rfl, fun h => absurd h (by decide), rfl, by decide⟩
set_option maxRecDepth 20000 in
theorem im_136 : Cond.instanceMethod (xyn 136) ∈ xTs := xin_at 1248 rfl rfl
set_option maxRecDepth 20000 in
theorem cm_137 : XCm 137 1 := ⟨xin_at 1245 rfl rfl, by decide +kernel, by decide +kernel, by decide +kernel, by decide, by decide +kernel, rfl, fun h => absurd h (by decide), rfl, by decide⟩
set_option maxRecDepth 20000 in
theorem im_137 : Cond.instanceMethod (xyn 137) ∈ xTs := xin_at 1243 rfl rfl
set_option maxRecDepth 20000 in
theorem cm_138 : XCm 138 1 := ⟨xin_at 1265 rfl rfl, by decide +kernel, by decide +kernel, by decide +kernel, by decide, by decide +kernel, rfl, fun h => absurd h (by decide), rfl, by decide⟩
set_option maxRecDepth 20000 in
theorem im_138 : Cond.instanceMethod (xyn 138) ∈ xTs := xin_at 1263 rfl rfl
set_option maxRecDepth 20000 in
theorem cm_139 : XCm 139 2 := ⟨xin_at 1269 rfl rfl, by decide +kernel, by decide +kernel, by decide +kernel, by decide, by decide +kernel, rfl, fun h => absurd h (by decide), rfl, by decide⟩
set_option maxRecDepth 20000 in
theorem im_139 : Cond.instanceMethod (xyn 139) ∈ xTs := xin_at 1267 rfl rfl
set_option maxRecDepth 20000 in
theorem cm_140 : XCm 140 2 := ⟨xin_at 1274 rfl rfl, by decide +kernel, by decide +kernel, by decide +kernel, by decide, by decide +kernel, rfl, fun h => absurd h (by decide), rfl, by decide⟩
set_option maxRecDepth 20000 in
theorem im_140 : Cond.instanceMethod (xyn 140) ∈ xTs := xin_at 1272 rfl rfl
set_option maxRecDepth 20000 in
theorem cm_141 : XCm 141 2 := ⟨xin_at 1278 rfl rfl, by decide +kernel, by decide +kernel, by decide +kernel, by decide, by decide +kernel, rfl, fun h => absurd h (by decide), rfl, by decide⟩
set_option maxRecDepth 20000 in
theorem im_141 : Cond.instanceMethod (xyn 141) ∈ xTs := xin_at 1276 rfl rfl
set_option maxRecDepth 20000 in
theorem cm_142 : XCm 142 2 := ⟨xin_at 1282 rfl rfl, by decide +kernel, by decide +kernel, by decide +kernel, by decide, by decide +kernel, rfl, fun h => absurd h (by decide), rfl, by decide⟩
set_option maxRecDepth 20000 in
theorem im_142 : Cond.instanceMethod (xyn 142) ∈ xTs := xin_at 1280 rfl rfl
set_option maxRecDepth 20000 in
theorem cm_143 : XCm 143 1 := ⟨xin_at 1287 rfl rfl, by decide +kernel, by decide +kernel, by decide +kernel, by decide, by decide +kernel, rfl, fun h => absurd h (by decide), rfl, by decide⟩
set_option maxRecDepth 20000 in
theorem im_143 : Cond.instanceMethod (xyn 143) ∈ xTs := xin_at 1285 rfl rfl
set_option maxRecDepth 20000 in
theorem cm_144 : XCm 144 1 := ⟨xin_at 1041 rfl rfl, by decide +kernel, by decide +kernel, by decide +kernel, by decide, by decide +kernel, rfl, fun h => absurd h (by decide), rfl, by decide⟩
set_option maxRecDepth 20000 in
theorem im_144 : Cond.instanceMethod (xyn 144) ∈ xTs := xin_at 1040 rfl rfl
set_option maxRecDepth 20000 in
theorem cm_145 : XCm 145 1 := ⟨xin_at 1196 rfl rfl, by decide +kernel, by decide +kernel, by decide +kernel, by decide, by decide +kernel, rfl, fun h => absurd h (by decide), rfl, by decide⟩
set_option maxRecDepth 20000 in
theorem im_145 : Cond.instanceMethod (xyn 145) ∈ xTs := xin_at 1195 rfl rfl
set_option maxRecDepth 20000 in
theorem cm_146 : XCm 146 1 := ⟨xin_at 1309 rfl rfl, by decide +kernel, by decide +kernel, by decide +kernel, by decide, by decide +kernel, rfl, fun h => absurd h (by decide), rfl, by decide⟩
set_option maxRecDepth 20000 in
theorem im_146 : Cond.instanceMethod (xyn 146) ∈ xTs := xin_at 1308 rfl rfl
set_option maxRecDepth 20000 in
theorem cm_147 : XCm 147 1 := ⟨xin_at 1292 rfl rfl, by decide +kernel, by decide +kernel, by decide +kernel, by decide, by decide +kernel, rfl, fun h => absurd h (by decide), rfl, by decide⟩
set_option maxRecDepth 20000 in
theorem im_147 : Cond.instanceMethod (xyn 147) ∈ xTs := xin_at 1290 rfl rfl
set_option maxRecDepth 20000 in
theorem cm_148 : XCm 148 3 := ⟨xin_at 1300 rfl rfl, by decide +kernel, by decide +kernel, by decide +kernel, by decide, by decide +kernel, rfl, fun h => absurd h (by decide), rfl, by decide⟩
set_option maxRecDepth 20000 in
theorem im_148 : Cond.instanceMethod (xyn 148) ∈ xTs := xin_at 1298 rfl rfl
set_option maxRecDepth 20000 in
theorem cm_149 : XCm 149 2 := ⟨xin_at 1313 rfl rfl, by decide +kernel, by decide +kernel, by decide +kernel, by decide, by decide +kernel, rfl, fun h => absurd h (by decide), rfl, by decide⟩
set_option maxRecDepth 20000 in
theorem im_149 : Cond.instanceMethod (xyn 149) ∈ xTs := xin_at 1311 rfl rfl
set_option maxRecDepth 20000 in
theorem cm_150 : XCm 150 2 := ⟨xin_at 1325 rfl rfl, by decide +kernel, by decide +kernel, by decide +kernel, by decide, by decide +kernel, rfl, fun h => absurd h (by decide), rfl, by decide⟩
set_option maxRecDepth 20000 in
theorem im_150 : Cond.instanceMethod (xyn 150) ∈ xTs := xin_at 1324 rfl rfl
set_option maxRecDepth 20000 in
theorem cm_151 : XCm 151 2 := ⟨xin_at 1329 rfl rfl, by decide +kernel, by decide +kernel, by decide +kernel, by decide, by decide +kernel, rfl, fun h => absurd h (by decide), rfl, by decide⟩
set_option maxRecDepth 20000 in
theorem im_151 : Cond.instanceMethod (xyn 151) ∈ xTs := xin_at 1328 rfl rfl
set_option maxRecDepth 20000 in
theorem cm_152 : XCm 152 1 := ⟨xin_at 1333 rfl rfl, by decide +kernel, by decide +kernel, by decide +kernel, by decide, by decide +kernel, rfl, fun h => absurd h (by decide), rfl, by decide⟩
set_option maxRecDepth 20000 in
theorem im_152 : Cond.instanceMethod (xyn 152) ∈ xTs := xin_at 1332 rfl rfl
set_option maxRecDepth 20000 in
theorem cm_153 : XCm 153 2 := ⟨xin_at 1321 rfl rfl, by decide +kernel, by decide +kernel, by decide +kernel, by decide, by decide +kernel, rfl, fun h => absurd h (by decide), rfl, by decide⟩
set_option maxRecDepth 20000 in
theorem im_153 : Cond.instanceMethod (xyn 153) ∈ xTs := xin_at 1320 rfl rfl
set_option maxRecDepth 20000 in
theorem cm_154 : XCm 154 2 := ⟨xin_at 1317 rfl rfl, by decide +kernel, by decide +kernel, by decide +kernel, by decide, by decide +kernel, rfl, fun h => absurd h (by decide), rfl, by decide⟩
set_option maxRecDepth 20000 in
theorem im_154 : Cond.instanceMethod (xyn 154) ∈ xTs := xin_at 1315 rfl rfl
set_option maxRecDepth 20000 in
theorem cm_155 : XCm 155 2 := ⟨xin_at 1337 rfl rfl, by decide +kernel, by decide +kernel, by decide +kernel, by decide, by decide +kernel, rfl, fun h => absurd h (by decide), rfl, by decide⟩
set_option maxRecDepth 20000 in
theorem im_155 : Cond.instanceMethod (xyn 155) ∈ xTs := xin_at 1335 rfl rfl
set_option maxRecDepth 20000 in
theorem cm_156 : XCm 156 2 := ⟨xin_at 1341 rfl rfl, by decide +kernel, by decide +kernel, by decide +kernel, by decide, by decide +kernel, rfl, fun h => absurd h (by decide), rfl, by decide⟩
set_option maxRecDepth 20000 in
theorem im_156 : Cond.instanceMethod (xyn 156) ∈ xTs := xin_at 1339 rfl rfl
set_option maxRecDepth 20000 in
theorem cm_157 : XCm 157 2 := ⟨xin_at 1345 rfl rfl, by decide +kernel, by decide +kernel, by decide +kernel, by decide, by decide +kernel, rfl, fun h => absurd h (by decide), rfl, by decide⟩
set_option maxRecDepth 20000 in
theorem im_157 : Cond.instanceMethod (xyn 157) ∈ xTs := xin_at 1343 rfl rfl
set_option maxRecDepth 20000 in
theorem cm_158 : XCm 158 2 := ⟨xin_at 1349 rfl rfl, by decide +kernel, by decide +kernel, by decide +kernel, by decide, by decide +kernel, rfl, fun h => absurd h (by decide), rfl, by decide⟩
set_option maxRecDepth 20000 in
theorem im_158 : Cond.instanceMethod (xyn 158) ∈ xTs := xin_at 1347 rfl rfl
set_option maxRecDepth 20000 in
theorem cm_159 : XCm 159 1 := ⟨xin_at 1241 rfl rfl, by decide +kernel, by decide +kernel, by decide +kernel, by decide, by decide +kernel, rfl, fun h => absurd h (by decide), rfl, by decide⟩
set_option maxRecDepth 20000 in
theorem im_159 : Cond.instanceMethod (xyn 159) ∈ xTs := xin_at 1240 rfl rfl
set_option maxRecDepth 20000 in
theorem cm_160 : XCm 160 0 := ⟨xin_at 1237 rfl rfl, by decide +kernel, by decide +kernel, by decide +kernel, by decide, by decide +kernel, rfl, fun h => absurd h (by decide), rfl, by decide⟩
set_option maxRecDepth 20000 in
theorem im_160 : Cond.instanceMethod (xyn 160) ∈ xTs := xin_at 1236 rfl rfl
set_option maxRecDepth 20000 in
theorem cm_161 : XCm 161 3 := ⟨xin_at 1232 rfl rfl, by decide +kernel, by decide +kernel, by decide +kernel, by decide, by decide +kernel, rfl, fun h => absurd h (by decide), rfl, by decide⟩
set_option maxRecDepth 20000 in
theorem im_161 : Cond.instanceMethod (xyn 161) ∈ xTs := xin_at 1231 rfl rfl
set_option maxRecDepth 20000 in
theorem cm_162 : XCm 162 2 := ⟨xin_at 1228 rfl rfl, by decide +kernel, by decide +kernel, by decide +kernel, by decide, by decide +kernel, rfl, fun h => absurd h (by decide), rfl, by decide⟩
set_option maxRecDepth 20000 in
theorem im_162 : Cond.instanceMethod (xyn 162) ∈ xTs := xin_at 1227 rfl rfl
set_option maxRecDepth 20000 in
theorem cm_163 : XCm 163 0 := ⟨xin_at 1360 rfl rfl, by decide +kernel, by decide +kernel, by decide +kernel, by decide, by decide +kernel, rfl, fun h => absurd h (by decide), rfl, by decide⟩
set_option maxRecDepth 20000 in
theorem im_163 : Cond.instanceMethod (xyn 163) ∈ xTs := xin_at 1359 rfl rfl
set_option maxRecDepth 20000 in
theorem cm_164 : XCm 164 1 := ⟨xin_at 1355 rfl rfl, by decide +kernel, by decide +kernel, by decide +kernel, by decide, by decide +kernel, rfl, fun h => absurd h (by decide), rfl, by decide⟩
set_option maxRecDepth 20000 in
theorem im_164 : Cond.instanceMethod (xyn 164) ∈ xTs := xin_at 1353 rfl rfl
set_option maxRecDepth 20000 in
theorem cm_165 : XCm 165 2 := ⟨xin_at 1365 rfl rfl, by decide +kernel, by decide +kernel, by decide +kernel, by decide, by decide +kernel, rfl, fun h => absurd h (by decide), rfl, by decide⟩
set_option maxRecDepth 20000 in
theorem im_165 : Cond.instanceMethod (xyn 165) ∈ xTs := xin_at 1363 rfl rfl
set_option maxRecDepth 20000 in
theorem cm_166 : XCm 166 1 := ⟨xin_at 1369 rfl rfl, by decide +kernel, by decide +kernel, by decide +kernel, by decide, by decide +kernel, rfl, fun h => absurd h (by decide), rfl, by decide⟩
set_option maxRecDepth 20000 in
theorem im_166 : Cond.instanceMethod (xyn 166) ∈ xTs := xin_at 1367 rfl rfl
set_option maxRecDepth 20000 in
theorem cm_167 : XCm 167 2 := ⟨xin_at 1373 rfl rfl, by decide +kernel, by decide +kernel, by decide +kernel, by decide, by decide +kernel, rfl, fun h => absurd h (by decide), rfl, by decide⟩
set_option maxRecDepth 20000 in
theorem im_167 : Cond.instanceMethod (xyn 167) ∈ xTs := xin_at 1371 rfl rfl
set_option maxRecDepth 20000 in
theorem cm_168 : XCm 168 5 := ⟨xin_at 1046 rfl rfl, by decide +kernel, by decide +kernel, by decide +kernel, by decide, by decide +kernel, rfl, fun h => absurd h (by decide), rfl, by decide⟩
set_option maxRecDepth 20000 in
theorem im_168 : Cond.instanceMethod (xyn 168) ∈ xTs := xin_at 1045 rfl rfl
set_option maxRecDepth 20000 in
theorem cm_169 : XCm 169 1 := ⟨xin_at 1224 rfl rfl, by decide +kernel, by decide +kernel, by decide +kernel, by decide, by decide +kernel, rfl, fun h => absurd h (by decide), rfl, by decide⟩
set_option maxRecDepth 20000 in
theorem im_169 : Cond.instanceMethod (xyn 169) ∈ xTs := xin_at 1223 rfl rfl
set_option maxRecDepth 20000 in
theorem cm_170 : XCm 170 2 := ⟨xin_at 1390 rfl rfl, by decide +kernel, by decide +kernel, by decide +kernel, by decide, by decide +kernel, rfl, fun h => absurd h (by decide), rfl, by decide⟩
set_option maxRecDepth 20000 in
theorem im_170 : Cond.instanceMethod (xyn 170) ∈ xTs := xin_at 1389 rfl rfl
set_option maxRecDepth 20000 in
theorem cm_171 : XCm 171 0 := ⟨xin_at 1386 rfl rfl, by decide +kernel, by decide +kernel, by decide +kernel, by decide, by decide +kernel, rfl, fun h => absurd h (by decide), rfl, by decide⟩
set_option maxRecDepth 20000 in
theorem im_171 : Cond.instanceMethod (xyn 171) ∈ xTs := xin_at 1385 rfl rfl
set_option maxRecDepth 20000 in
theorem cm_172 : XCm 172 2 := ⟨xin_at 1382 rfl rfl, by decide +kernel, by decide +kernel, by decide +kernel, by decide, by decide +kernel, rfl, fun h => absurd h (by decide), rfl, by decide⟩
set_option maxRecDepth 20000 in
theorem im_172 : Cond.instanceMethod (xyn 172) ∈ xTs := xin_at 1381 rfl rfl
set_option maxRecDepth 20000 in
theorem cm_173 : XCm 173 4 := ⟨xin_at 1377 rfl rfl, by decide +kernel, by decide +kernel, by decide +kernel, by decide, by decide +kernel, rfl, fun h => absurd h (by decide), rfl, by decide⟩
set_option maxRecDepth 20000 in
theorem im_173 : Cond.instanceMethod (xyn 173) ∈ xTs := xin_at 1375 rfl rfl
set_option maxRecDepth 20000 in
theorem cm_174 : XCm 174 3 := ⟨xin_at 1394 rfl rfl, by decide +kernel, by decide +kernel, by decide +kernel, by decide, by decide +kernel, rfl, fun h => absurd h (by decide), rfl, by decide⟩
set_option maxRecDepth 20000 in
theorem im_174 : Cond.instanceMethod (xyn 174) ∈ xTs := xin_at 1393 rfl rfl
set_option maxRecDepth 20000 in
theorem cm_175 : XCm 175 1 := ⟨xin_at 1402 rfl rfl, by decide +kernel, by decide +kernel, by decide +kernel, by decide, by decide +kernel, rfl, fun h => absurd h (by decide), rfl, by decide⟩
set_option maxRecDepth 20000 in
theorem im_175 : Cond.instanceMethod (xyn 175) ∈ xTs := xin_at 1401 rfl rfl
set_option maxRecDepth 20000 in
theorem cm_176 : XCm 176 2 := ⟨xin_at 1398 rfl rfl, by decide +kernel, by decide +kernel, by decide +kernel, by decide, by decide +kernel, rfl, fun h => absurd h (by decide), rfl, by decide⟩
set_option maxRecDepth 20000 in
theorem im_176 : Cond.instanceMethod (xyn 176) ∈ xTs := xin_at 1396 rfl rfl
set_option maxRecDepth 20000 in
theorem cm_177 : XCm 177 2 := ⟨xin_at 1406 rfl rfl, by decide +kernel, by decide +kernel, by decide +kernel, by decide, by decide +kernel, rfl, fun h => absurd h (by decide), rfl, by decide⟩
set_option maxRecDepth 20000 in
theorem im_177 : Cond.instanceMethod (xyn 177) ∈ xTs := xin_at 1404 rfl rfl
set_option maxRecDepth 20000 in
theorem cm_178 : XCm 178 2 := ⟨xin_at 1410 rfl rfl, by decide +kernel, by decide +kernel, by decide +kernel, by decide, by decide +kernel, rfl, fun h => absurd h (by decide), rfl, by decide⟩
set_option maxRecDepth 20000 in
theorem im_178 : Cond.instanceMethod (xyn 178) ∈ xTs := xin_at 1408 rfl rfl
set_option maxRecDepth 20000 in
theorem cm_179 : XCm 179 2 := ⟨xin_at 1414 rfl rfl, by decide +kernel, by decide +kernel, by decide +kernel, by decide, by decide +kernel, rfl, fun h => absurd h (by decide), rfl, by decide⟩
set_option maxRecDepth 20000 in
theorem im_179 : Cond.instanceMethod (xyn 179) ∈ xTs := xin_at 1412 rfl rfl
set_option maxRecDepth 20000 in
theorem ini_0 : Cond.initialized (xnm 0) ∈ xTs := xin_at 57 rfl rfl
set_option maxRecDepth 20000 in
theorem ini_1 : Cond.initialized (xnm 1) ∈ xTs := xin_at 62 rfl rfl
set_option maxRecDepth 20000 in
theorem ini_2 : Cond.initialized (xnm 2) ∈ xTs := xin_at 54 rfl rfl
set_option maxRecDepth 20000 in
theorem ini_3 : Cond.initialized (xnm 3) ∈ xTs := xin_at 56 rfl rfl
set_option maxRecDepth 20000 in
theorem ini_4 : Cond.initialized (xnm 4) ∈ xTs := xin_at 60 rfl rfl
set_option maxRecDepth 20000 in
theorem ini_5 : Cond.initialized (xnm 5) ∈ xTs := xin_at 58 rfl rfl
set_option maxRecDepth 20000 in
theorem ini_6 : Cond.initialized (xnm 6) ∈ xTs := xin_at 59 rfl rfl
set_option maxRecDepth 20000 in
theorem ini_7 : Cond.initialized (xnm 7) ∈ xTs := xin_at 61 rfl rfl
set_option maxRecDepth 20000 in
theorem ini_8 : Cond.initialized (xnm 8) ∈ xTs := xin_at 64 rfl rfl
set_option maxRecDepth 20000 in
theorem ini_9 : Cond.initialized (xnm 9) ∈ xTs := xin_at 55 rfl rfl
set_option maxRecDepth 20000 in
theorem ini_10 : Cond.initialized (xnm 10) ∈ xTs := xin_at 63 rfl rfl
set_option maxRecDepth 20000 in
theorem ini_11 : Cond.initialized (xnm 11) ∈ xTs := xin_at 53 rfl rfl
set_option maxRecDepth 20000 in
theorem ini_12 : Cond.initialized (xnm 12) ∈ xTs := xin_at 65 rfl rfl
set_option maxRecDepth 20000 in
theorem sel_1 : Cond.selects (xnm 0) (xyn 1) (xyn 1) ∈ xTs := xin_at 958 rfl rfl
set_option maxRecDepth 20000 in
theorem sel_2 : Cond.selects (xnm 0) (xyn 2) (xyn 2) ∈ xTs := xin_at 518 rfl rfl
set_option maxRecDepth 20000 in
theorem sel_3 : Cond.selects (xnm 0) (xyn 3) (xyn 3) ∈ xTs := xin_at 627 rfl rfl
set_option maxRecDepth 20000 in
theorem sel_4 : Cond.selects (xnm 0) (xyn 4) (xyn 4) ∈ xTs := xin_at 3 rfl rfl
set_option maxRecDepth 20000 in
theorem sel_5 : Cond.selects (xnm 0) (xyn 5) (xyn 5) ∈ xTs := xin_at 4 rfl rfl
set_option maxRecDepth 20000 in
theorem sel_6 : Cond.selects (xnm 0) (xyn 6) (xyn 6) ∈ xTs := xin_at 5 rfl rfl
set_option maxRecDepth 20000 in
theorem sel_7 : Cond.selects (xnm 0) (xyn 7) (xyn 7) ∈ xTs := xin_at 14 rfl rfl
set_option maxRecDepth 20000 in
theorem sel_8 : Cond.selects (xnm 0) (xyn 8) (xyn 8) ∈ xTs := xin_at 15 rfl rfl
set_option maxRecDepth 20000 in
theorem sel_9 : Cond.selects (xnm 0) (xyn 9) (xyn 9) ∈ xTs := xin_at 16 rfl rfl
set_option maxRecDepth 20000 in
theorem sel_11 : Cond.selects (xnm 1) (xyn 11) (xyn 11) ∈ xTs := xin_at 639 rfl rfl
set_option maxRecDepth 20000 in
theorem sel_12 : Cond.selects (xnm 1) (xyn 12) (xyn 12) ∈ xTs := xin_at 570 rfl rfl
set_option maxRecDepth 20000 in
theorem sel_13 : Cond.selects (xnm 1) (xyn 13) (xyn 13) ∈ xTs := xin_at 458 rfl rfl
set_option maxRecDepth 20000 in
theorem sel_14 : Cond.selects (xnm 1) (xyn 14) (xyn 14) ∈ xTs := xin_at 899 rfl rfl
set_option maxRecDepth 20000 in
theorem sel_15 : Cond.selects (xnm 1) (xyn 15) (xyn 15) ∈ xTs := xin_at 643 rfl rfl
set_option maxRecDepth 20000 in
theorem sel_16 : Cond.selects (xnm 1) (xyn 16) (xyn 16) ∈ xTs := xin_at 490 rfl rfl
set_option maxRecDepth 20000 in
theorem sel_17 : Cond.selects (xnm 1) (xyn 17) (xyn 17) ∈ xTs := xin_at 635 rfl rfl
set_option maxRecDepth 20000 in
theorem sel_18 : Cond.selects (xnm 1) (xyn 18) (xyn 18) ∈ xTs := xin_at 853 rfl rfl
set_option maxRecDepth 20000 in
theorem sel_19 : Cond.selects (xnm 1) (xyn 19) (xyn 19) ∈ xTs := xin_at 857 rfl rfl
set_option maxRecDepth 20000 in
theorem sel_20 : Cond.selects (xnm 1) (xyn 20) (xyn 20) ∈ xTs := xin_at 534 rfl rfl
set_option maxRecDepth 20000 in
theorem sel_21 : Cond.selects (xnm 1) (xyn 21) (xyn 21) ∈ xTs := xin_at 546 rfl rfl
set_option maxRecDepth 20000 in
theorem sel_22 : Cond.selects (xnm 1) (xyn 22) (xyn 22) ∈ xTs := xin_at 542 rfl rfl
set_option maxRecDepth 20000 in
theorem sel_23 : Cond.selects (xnm 1) (xyn 23) (xyn 23) ∈ xTs := xin_at 861 rfl rfl
set_option maxRecDepth 20000 in
theorem sel_25 : Cond.selects (xnm 2) (xyn 25) (xyn 25) ∈ xTs := xin_at 619 rfl rfl
set_option maxRecDepth 20000 in
theorem sel_26 : Cond.selects (xnm 2) (xyn 26) (xyn 26) ∈ xTs := xin_at 623 rfl rfl
set_option maxRecDepth 20000 in
theorem sel_27 : Cond.selects (xnm 2) (xyn 27) (xyn 27) ∈ xTs := xin_at 287 rfl rfl
set_option maxRecDepth 20000 in
theorem sel_28 : Cond.selects (xnm 2) (xyn 28) (xyn 28) ∈ xTs := xin_at 891 rfl rfl
set_option maxRecDepth 20000 in
theorem sel_30 : Cond.selects (xnm 3) (xyn 30) (xyn 30) ∈ xTs := xin_at 882 rfl rfl
set_option maxRecDepth 20000 in
theorem sel_31 : Cond.selects (xnm 3) (xyn 31) (xyn 31) ∈ xTs := xin_at 12 rfl rfl
set_option maxRecDepth 20000 in
theorem sel_32 : Cond.selects (xnm 3) (xyn 32) (xyn 32) ∈ xTs := xin_at 13 rfl rfl
set_option maxRecDepth 20000 in
theorem sel_34 : Cond.selects (xnm 4) (xyn 34) (xyn 34) ∈ xTs := xin_at 382 rfl rfl
set_option maxRecDepth 20000 in
theorem sel_35 : Cond.selects (xnm 4) (xyn 35) (xyn 35) ∈ xTs := xin_at 679 rfl rfl
set_option maxRecDepth 20000 in
theorem sel_36 : Cond.selects (xnm 4) (xyn 36) (xyn 36) ∈ xTs := xin_at 2 rfl rfl
set_option maxRecDepth 20000 in
theorem sel_37 : Cond.selects (xnm 4) (xyn 37) (xyn 37) ∈ xTs := xin_at 510 rfl rfl
set_option maxRecDepth 20000 in
theorem sel_38 : Cond.selects (xnm 4) (xyn 38) (xyn 38) ∈ xTs := xin_at 694 rfl rfl
set_option maxRecDepth 20000 in
theorem sel_39 : Cond.selects (xnm 4) (xyn 39) (xyn 39) ∈ xTs := xin_at 1030 rfl rfl
set_option maxRecDepth 20000 in
theorem sel_41 : Cond.selects (xnm 5) (xyn 41) (xyn 41) ∈ xTs := xin_at 1009 rfl rfl
set_option maxRecDepth 20000 in
theorem sel_42 : Cond.selects (xnm 5) (xyn 42) (xyn 42) ∈ xTs := xin_at 1026 rfl rfl
set_option maxRecDepth 20000 in
theorem sel_43 : Cond.selects (xnm 5) (xyn 43) (xyn 43) ∈ xTs := xin_at 354 rfl rfl
set_option maxRecDepth 20000 in
theorem sel_44 : Cond.selects (xnm 5) (xyn 44) (xyn 44) ∈ xTs := xin_at 0 rfl rfl
set_option maxRecDepth 20000 in
theorem sel_45 : Cond.selects (xnm 5) (xyn 45) (xyn 45) ∈ xTs := xin_at 1 rfl rfl
set_option maxRecDepth 20000 in
theorem sel_46 : Cond.selects (xnm 5) (xyn 46) (xyn 46) ∈ xTs := xin_at 18 rfl rfl
set_option maxRecDepth 20000 in
theorem sel_47 : Cond.selects (xnm 5) (xyn 47) (xyn 47) ∈ xTs := xin_at 1014 rfl rfl
set_option maxRecDepth 20000 in
theorem sel_48 : Cond.selects (xnm 5) (xyn 48) (xyn 48) ∈ xTs := xin_at 499 rfl rfl
set_option maxRecDepth 20000 in
theorem sel_49 : Cond.selects (xnm 5) (xyn 49) (xyn 49) ∈ xTs := xin_at 503 rfl rfl
set_option maxRecDepth 20000 in
theorem sel_51 : Cond.selects (xnm 5) (xyn 51) (xyn 51) ∈ xTs := xin_at 986 rfl rfl
set_option maxRecDepth 20000 in
theorem sel_52 : Cond.selects (xnm 5) (xyn 52) (xyn 52) ∈ xTs := xin_at 19 rfl rfl
set_option maxRecDepth 20000 in
theorem sel_53 : Cond.selects (xnm 5) (xyn 53) (xyn 53) ∈ xTs := xin_at 17 rfl rfl
set_option maxRecDepth 20000 in
theorem sel_55 : Cond.selects (xnm 5) (xyn 55) (xyn 55) ∈ xTs := xin_at 686 rfl rfl
set_option maxRecDepth 20000 in
theorem sel_56 : Cond.selects (xnm 5) (xyn 56) (xyn 56) ∈ xTs := xin_at 10 rfl rfl
set_option maxRecDepth 20000 in
theorem sel_58 : Cond.selects (xnm 6) (xyn 58) (xyn 58) ∈ xTs := xin_at 671 rfl rfl
set_option maxRecDepth 20000 in
theorem sel_60 : Cond.selects (xnm 6) (xyn 60) (xyn 60) ∈ xTs := xin_at 9 rfl rfl
set_option maxRecDepth 20000 in
theorem sel_61 : Cond.selects (xnm 6) (xyn 61) (xyn 61) ∈ xTs := xin_at 706 rfl rfl
set_option maxRecDepth 20000 in
theorem sel_63 : Cond.selects (xnm 7) (xyn 63) (xyn 63) ∈ xTs := xin_at 578 rfl rfl
set_option maxRecDepth 20000 in
theorem sel_64 : Cond.selects (xnm 7) (xyn 64) (xyn 64) ∈ xTs := xin_at 454 rfl rfl
set_option maxRecDepth 20000 in
theorem sel_65 : Cond.selects (xnm 7) (xyn 65) (xyn 65) ∈ xTs := xin_at 450 rfl rfl
set_option maxRecDepth 20000 in
theorem sel_66 : Cond.selects (xnm 7) (xyn 66) (xyn 66) ∈ xTs := xin_at 586 rfl rfl
set_option maxRecDepth 20000 in
theorem sel_67 : Cond.selects (xnm 7) (xyn 67) (xyn 67) ∈ xTs := xin_at 606 rfl rfl
set_option maxRecDepth 20000 in
theorem sel_68 : Cond.selects (xnm 7) (xyn 68) (xyn 68) ∈ xTs := xin_at 789 rfl rfl
set_option maxRecDepth 20000 in
theorem sel_70 : Cond.selects (xnm 8) (xyn 70) (xyn 70) ∈ xTs := xin_at 526 rfl rfl
set_option maxRecDepth 20000 in
theorem sel_71 : Cond.selects (xnm 8) (xyn 71) (xyn 71) ∈ xTs := xin_at 912 rfl rfl
set_option maxRecDepth 20000 in
theorem sel_72 : Cond.selects (xnm 8) (xyn 72) (xyn 72) ∈ xTs := xin_at 917 rfl rfl
set_option maxRecDepth 20000 in
theorem sel_73 : Cond.selects (xnm 8) (xyn 73) (xyn 73) ∈ xTs := xin_at 594 rfl rfl
set_option maxRecDepth 20000 in
theorem sel_74 : Cond.selects (xnm 8) (xyn 74) (xyn 74) ∈ xTs := xin_at 566 rfl rfl
set_option maxRecDepth 20000 in
theorem sel_75 : Cond.selects (xnm 8) (xyn 75) (xyn 75) ∈ xTs := xin_at 922 rfl rfl
set_option maxRecDepth 20000 in
theorem sel_76 : Cond.selects (xnm 8) (xyn 76) (xyn 76) ∈ xTs := xin_at 647 rfl rfl
set_option maxRecDepth 20000 in
theorem sel_77 : Cond.selects (xnm 8) (xyn 77) (xyn 77) ∈ xTs := xin_at 582 rfl rfl
set_option maxRecDepth 20000 in
theorem sel_78 : Cond.selects (xnm 8) (xyn 78) (xyn 78) ∈ xTs := xin_at 808 rfl rfl
set_option maxRecDepth 20000 in
theorem sel_80 : Cond.selects (xnm 9) (xyn 80) (xyn 80) ∈ xTs := xin_at 486 rfl rfl
set_option maxRecDepth 20000 in
theorem sel_81 : Cond.selects (xnm 9) (xyn 81) (xyn 81) ∈ xTs := xin_at 482 rfl rfl
set_option maxRecDepth 20000 in
theorem sel_82 : Cond.selects (xnm 9) (xyn 82) (xyn 82) ∈ xTs := xin_at 718 rfl rfl
set_option maxRecDepth 20000 in
theorem sel_83 : Cond.selects (xnm 9) (xyn 83) (xyn 83) ∈ xTs := xin_at 819 rfl rfl
set_option maxRecDepth 20000 in
theorem sel_84 : Cond.selects (xnm 9) (xyn 84) (xyn 84) ∈ xTs := xin_at 494 rfl rfl
set_option maxRecDepth 20000 in
theorem sel_85 : Cond.selects (xnm 9) (xyn 85) (xyn 85) ∈ xTs := xin_at 251 rfl rfl
set_option maxRecDepth 20000 in
theorem sel_86 : Cond.selects (xnm 9) (xyn 86) (xyn 86) ∈ xTs := xin_at 386 rfl rfl
set_option maxRecDepth 20000 in
theorem sel_87 : Cond.selects (xnm 9) (xyn 87) (xyn 87) ∈ xTs := xin_at 558 rfl rfl
set_option maxRecDepth 20000 in
theorem sel_88 : Cond.selects (xnm 9) (xyn 88) (xyn 88) ∈ xTs := xin_at 6 rfl rfl
set_option maxRecDepth 20000 in
theorem sel_89 : Cond.selects (xnm 9) (xyn 89) (xyn 89) ∈ xTs := xin_at 7 rfl rfl
set_option maxRecDepth 20000 in
theorem sel_90 : Cond.selects (xnm 9) (xyn 90) (xyn 90) ∈ xTs := xin_at 8 rfl rfl
set_option maxRecDepth 20000 in
theorem sel_91 : Cond.selects (xnm 9) (xyn 91) (xyn 91) ∈ xTs := xin_at 602 rfl rfl
set_option maxRecDepth 20000 in
theorem sel_92 : Cond.selects (xnm 9) (xyn 92) (xyn 92) ∈ xTs := xin_at 908 rfl rfl
set_option maxRecDepth 20000 in
theorem sel_95 : Cond.selects (xnm 11) (xyn 95) (xyn 95) ∈ xTs := xin_at 478 rfl rfl
set_option maxRecDepth 20000 in
theorem sel_96 : Cond.selects (xnm 11) (xyn 96) (xyn 96) ∈ xTs := xin_at 554 rfl rfl
set_option maxRecDepth 20000 in
theorem sel_97 : Cond.selects (xnm 11) (xyn 97) (xyn 97) ∈ xTs := xin_at 598 rfl rfl
set_option maxRecDepth 20000 in
theorem sel_98 : Cond.selects (xnm 11) (xyn 98) (xyn 98) ∈ xTs := xin_at 610 rfl rfl
set_option maxRecDepth 20000 in
theorem sel_99 : Cond.selects (xnm 11) (xyn 99) (xyn 99) ∈ xTs := xin_at 714 rfl rfl
set_option maxRecDepth 20000 in
theorem sel_100 : Cond.selects (xnm 11) (xyn 100) (xyn 100) ∈ xTs := xin_at 796 rfl rfl
set_option maxRecDepth 20000 in
theorem sel_101 : Cond.selects (xnm 11) (xyn 101) (xyn 101) ∈ xTs := xin_at 803 rfl rfl
set_option maxRecDepth 20000 in
theorem sel_102 : Cond.selects (xnm 11) (xyn 102) (xyn 102) ∈ xTs := xin_at 815 rfl rfl
set_option maxRecDepth 20000 in
theorem sel_103 : Cond.selects (xnm 11) (xyn 103) (xyn 103) ∈ xTs := xin_at 615 rfl rfl
set_option maxRecDepth 20000 in
theorem sel_104 : Cond.selects (xnm 11) (xyn 104) (xyn 104) ∈ xTs := xin_at 828 rfl rfl
set_option maxRecDepth 20000 in
theorem sel_105 : Cond.selects (xnm 11) (xyn 105) (xyn 105) ∈ xTs := xin_at 868 rfl rfl
set_option maxRecDepth 20000 in
theorem sel_106 : Cond.selects (xnm 11) (xyn 106) (xyn 106) ∈ xTs := xin_at 876 rfl rfl
set_option maxRecDepth 20000 in
theorem sel_107 : Cond.selects (xnm 11) (xyn 107) (xyn 107) ∈ xTs := xin_at 929 rfl rfl
set_option maxRecDepth 20000 in
theorem sel_108 : Cond.selects (xnm 11) (xyn 108) (xyn 108) ∈ xTs := xin_at 937 rfl rfl
set_option maxRecDepth 20000 in
theorem sel_109 : Cond.selects (xnm 11) (xyn 109) (xyn 109) ∈ xTs := xin_at 631 rfl rfl
set_option maxRecDepth 20000 in
theorem sel_110 : Cond.selects (xnm 11) (xyn 110) (xyn 110) ∈ xTs := xin_at 945 rfl rfl
set_option maxRecDepth 20000 in
theorem sel_111 : Cond.selects (xnm 11) (xyn 111) (xyn 111) ∈ xTs := xin_at 953 rfl rfl
set_option maxRecDepth 20000 in
theorem sel_112 : Cond.selects (xnm 11) (xyn 112) (xyn 112) ∈ xTs := xin_at 653 rfl rfl
set_option maxRecDepth 20000 in
theorem sel_113 : Cond.selects (xnm 11) (xyn 113) (xyn 113) ∈ xTs := xin_at 657 rfl rfl
set_option maxRecDepth 20000 in
theorem sel_114 : Cond.selects (xnm 11) (xyn 114) (xyn 114) ∈ xTs := xin_at 662 rfl rfl
set_option maxRecDepth 20000 in
theorem sel_115 : Cond.selects (xnm 11) (xyn 115) (xyn 115) ∈ xTs := xin_at 981 rfl rfl
set_option maxRecDepth 20000 in
theorem sel_116 : Cond.selects (xnm 11) (xyn 116) (xyn 116) ∈ xTs := xin_at 667 rfl rfl
set_option maxRecDepth 20000 in
theorem sel_117 : Cond.selects (xnm 11) (xyn 117) (xyn 117) ∈ xTs := xin_at 702 rfl rfl
set_option maxRecDepth 20000 in
theorem sel_118 : Cond.selects (xnm 11) (xyn 118) (xyn 118) ∈ xTs := xin_at 1005 rfl rfl
set_option maxRecDepth 20000 in
theorem sel_119 : Cond.selects (xnm 11) (xyn 119) (xyn 119) ∈ xTs := xin_at 1021 rfl rfl
set_option maxRecDepth 20000 in
theorem sel_121 : Cond.selects (xnm 12) (xyn 121) (xyn 121) ∈ xTs := xin_at 1176 rfl rfl
set_option maxRecDepth 20000 in
theorem sel_123 : Cond.selects (xnm 12) (xyn 123) (xyn 123) ∈ xTs := xin_at 23 rfl rfl
set_option maxRecDepth 20000 in
theorem sel_124 : Cond.selects (xnm 12) (xyn 124) (xyn 124) ∈ xTs := xin_at 22 rfl rfl
set_option maxRecDepth 20000 in
theorem sel_125 : Cond.selects (xnm 12) (xyn 125) (xyn 125) ∈ xTs := xin_at 40 rfl rfl
set_option maxRecDepth 20000 in
theorem sel_126 : Cond.selects (xnm 12) (xyn 126) (xyn 126) ∈ xTs := xin_at 38 rfl rfl
set_option maxRecDepth 20000 in
theorem sel_127 : Cond.selects (xnm 12) (xyn 127) (xyn 127) ∈ xTs := xin_at 25 rfl rfl
set_option maxRecDepth 20000 in
theorem sel_128 : Cond.selects (xnm 12) (xyn 128) (xyn 128) ∈ xTs := xin_at 30 rfl rfl
set_option maxRecDepth 20000 in
theorem sel_129 : Cond.selects (xnm 12) (xyn 129) (xyn 129) ∈ xTs := xin_at 29 rfl rfl
set_option maxRecDepth 20000 in
theorem sel_130 : Cond.selects (xnm 12) (xyn 130) (xyn 130) ∈ xTs := xin_at 26 rfl rfl
set_option maxRecDepth 20000 in
theorem sel_131 : Cond.selects (xnm 12) (xyn 131) (xyn 131) ∈ xTs := xin_at 28 rfl rfl
set_option maxRecDepth 20000 in
theorem sel_132 : Cond.selects (xnm 12) (xyn 132) (xyn 132) ∈ xTs := xin_at 27 rfl rfl
set_option maxRecDepth 20000 in
theorem sel_133 : Cond.selects (xnm 12) (xyn 133) (xyn 133) ∈ xTs := xin_at 1180 rfl rfl
set_option maxRecDepth 20000 in
theorem sel_134 : Cond.selects (xnm 12) (xyn 134) (xyn 134) ∈ xTs := xin_at 39 rfl rfl
set_option maxRecDepth 20000 in
theorem sel_135 : Cond.selects (xnm 12) (xyn 135) (xyn 135) ∈ xTs := xin_at 37 rfl rfl
set_option maxRecDepth 20000 in
theorem sel_136 : Cond.selects (xnm 12) (xyn 136) (xyn 136) ∈ xTs := xin_at 36 rfl rfl
set_option maxRecDepth 20000 in
theorem sel_137 : Cond.selects (xnm 12) (xyn 137) (xyn 137) ∈ xTs := xin_at 1244 rfl rfl
set_option maxRecDepth 20000 in
theorem sel_138 : Cond.selects (xnm 12) (xyn 138) (xyn 138) ∈ xTs := xin_at 1264 rfl rfl
set_option maxRecDepth 20000 in
theorem sel_139 : Cond.selects (xnm 12) (xyn 139) (xyn 139) ∈ xTs := xin_at 1268 rfl rfl
set_option maxRecDepth 20000 in
theorem sel_140 : Cond.selects (xnm 12) (xyn 140) (xyn 140) ∈ xTs := xin_at 1273 rfl rfl
set_option maxRecDepth 20000 in
theorem sel_141 : Cond.selects (xnm 12) (xyn 141) (xyn 141) ∈ xTs := xin_at 1277 rfl rfl
set_option maxRecDepth 20000 in
theorem sel_142 : Cond.selects (xnm 12) (xyn 142) (xyn 142) ∈ xTs := xin_at 1281 rfl rfl
set_option maxRecDepth 20000 in
theorem sel_143 : Cond.selects (xnm 12) (xyn 143) (xyn 143) ∈ xTs := xin_at 1286 rfl rfl
set_option maxRecDepth 20000 in
theorem sel_144 : Cond.selects (xnm 12) (xyn 144) (xyn 144) ∈ xTs := xin_at 20 rfl rfl
set_option maxRecDepth 20000 in
theorem sel_145 : Cond.selects (xnm 12) (xyn 145) (xyn 145) ∈ xTs := xin_at 24 rfl rfl
set_option maxRecDepth 20000 in
theorem sel_146 : Cond.selects (xnm 12) (xyn 146) (xyn 146) ∈ xTs := xin_at 41 rfl rfl
set_option maxRecDepth 20000 in
theorem sel_147 : Cond.selects (xnm 12) (xyn 147) (xyn 147) ∈ xTs := xin_at 1291 rfl rfl
set_option maxRecDepth 20000 in
theorem sel_148 : Cond.selects (xnm 12) (xyn 148) (xyn 148) ∈ xTs := xin_at 1299 rfl rfl
set_option maxRecDepth 20000 in
theorem sel_149 : Cond.selects (xnm 12) (xyn 149) (xyn 149) ∈ xTs := xin_at 1312 rfl rfl
set_option maxRecDepth 20000 in
theorem sel_150 : Cond.selects (xnm 12) (xyn 150) (xyn 150) ∈ xTs := xin_at 43 rfl rfl
set_option maxRecDepth 20000 in
theorem sel_151 : Cond.selects (xnm 12) (xyn 151) (xyn 151) ∈ xTs := xin_at 44 rfl rfl
set_option maxRecDepth 20000 in
theorem sel_152 : Cond.selects (xnm 12) (xyn 152) (xyn 152) ∈ xTs := xin_at 45 rfl rfl
set_option maxRecDepth 20000 in
theorem sel_153 : Cond.selects (xnm 12) (xyn 153) (xyn 153) ∈ xTs := xin_at 42 rfl rfl
set_option maxRecDepth 20000 in
theorem sel_154 : Cond.selects (xnm 12) (xyn 154) (xyn 154) ∈ xTs := xin_at 1316 rfl rfl
set_option maxRecDepth 20000 in
theorem sel_155 : Cond.selects (xnm 12) (xyn 155) (xyn 155) ∈ xTs := xin_at 1336 rfl rfl
set_option maxRecDepth 20000 in
theorem sel_156 : Cond.selects (xnm 12) (xyn 156) (xyn 156) ∈ xTs := xin_at 1340 rfl rfl
set_option maxRecDepth 20000 in
theorem sel_157 : Cond.selects (xnm 12) (xyn 157) (xyn 157) ∈ xTs := xin_at 1344 rfl rfl
set_option maxRecDepth 20000 in
theorem sel_158 : Cond.selects (xnm 12) (xyn 158) (xyn 158) ∈ xTs := xin_at 1348 rfl rfl
set_option maxRecDepth 20000 in
theorem sel_159 : Cond.selects (xnm 12) (xyn 159) (xyn 159) ∈ xTs := xin_at 35 rfl rfl
set_option maxRecDepth 20000 in
theorem sel_160 : Cond.selects (xnm 12) (xyn 160) (xyn 160) ∈ xTs := xin_at 34 rfl rfl
set_option maxRecDepth 20000 in
theorem sel_161 : Cond.selects (xnm 12) (xyn 161) (xyn 161) ∈ xTs := xin_at 33 rfl rfl
set_option maxRecDepth 20000 in
theorem sel_162 : Cond.selects (xnm 12) (xyn 162) (xyn 162) ∈ xTs := xin_at 32 rfl rfl
set_option maxRecDepth 20000 in
theorem sel_163 : Cond.selects (xnm 12) (xyn 163) (xyn 163) ∈ xTs := xin_at 46 rfl rfl
set_option maxRecDepth 20000 in
theorem sel_164 : Cond.selects (xnm 12) (xyn 164) (xyn 164) ∈ xTs := xin_at 1354 rfl rfl
set_option maxRecDepth 20000 in
theorem sel_165 : Cond.selects (xnm 12) (xyn 165) (xyn 165) ∈ xTs := xin_at 1364 rfl rfl
set_option maxRecDepth 20000 in
theorem sel_166 : Cond.selects (xnm 12) (xyn 166) (xyn 166) ∈ xTs := xin_at 1368 rfl rfl
set_option maxRecDepth 20000 in
theorem sel_167 : Cond.selects (xnm 12) (xyn 167) (xyn 167) ∈ xTs := xin_at 1372 rfl rfl
set_option maxRecDepth 20000 in
theorem sel_168 : Cond.selects (xnm 12) (xyn 168) (xyn 168) ∈ xTs := xin_at 21 rfl rfl
set_option maxRecDepth 20000 in
theorem sel_169 : Cond.selects (xnm 12) (xyn 169) (xyn 169) ∈ xTs := xin_at 31 rfl rfl
set_option maxRecDepth 20000 in
theorem sel_170 : Cond.selects (xnm 12) (xyn 170) (xyn 170) ∈ xTs := xin_at 49 rfl rfl
set_option maxRecDepth 20000 in
theorem sel_171 : Cond.selects (xnm 12) (xyn 171) (xyn 171) ∈ xTs := xin_at 48 rfl rfl
set_option maxRecDepth 20000 in
theorem sel_172 : Cond.selects (xnm 12) (xyn 172) (xyn 172) ∈ xTs := xin_at 47 rfl rfl
set_option maxRecDepth 20000 in
theorem sel_173 : Cond.selects (xnm 12) (xyn 173) (xyn 173) ∈ xTs := xin_at 1376 rfl rfl
set_option maxRecDepth 20000 in
theorem sel_174 : Cond.selects (xnm 12) (xyn 174) (xyn 174) ∈ xTs := xin_at 50 rfl rfl
set_option maxRecDepth 20000 in
theorem sel_175 : Cond.selects (xnm 12) (xyn 175) (xyn 175) ∈ xTs := xin_at 51 rfl rfl
set_option maxRecDepth 20000 in
theorem sel_176 : Cond.selects (xnm 12) (xyn 176) (xyn 176) ∈ xTs := xin_at 1397 rfl rfl
set_option maxRecDepth 20000 in
theorem sel_177 : Cond.selects (xnm 12) (xyn 177) (xyn 177) ∈ xTs := xin_at 1405 rfl rfl
set_option maxRecDepth 20000 in
theorem sel_178 : Cond.selects (xnm 12) (xyn 178) (xyn 178) ∈ xTs := xin_at 1409 rfl rfl
set_option maxRecDepth 20000 in
theorem sel_179 : Cond.selects (xnm 12) (xyn 179) (xyn 179) ∈ xTs := xin_at 1413 rfl rfl
def XE7 (e : Nat × Nat × Nat × Nat × Nat) : Prop :=
  (e.2.2.2.2 < 13 → XCm e.2.1 e.2.2.1 ∧ Cond.methodLink (xnm (e.1 / 1000)) (e.1 % 1000) (xyn e.2.1) ∈ xTs ∧ Cond.instanceMethod (xyn e.2.1) ∈ xTs ∧ Cond.selects (xnm e.2.2.2.2) (xyn e.2.1) (xyn e.2.1) ∈ xTs ∧ Cond.initialized (xnm e.2.2.2.2) ∈ xTs ∧ (xyn e.2.1).cls = xnm e.2.2.2.2) ∧
  (e.2.2.2.2 = 90 → XCm e.2.1 e.2.2.1 ∧ Cond.methodLink (xnm (e.1 / 1000)) (e.1 % 1000) (xyn e.2.1) ∈ xTs ∧ Cond.static (xyn e.2.1) ∈ xTs ∧ Cond.initialized (xnm (e.1 / 1000)) ∈ xTs ∧ (xyn e.2.1).cls = xnm (e.1 / 1000)) ∧
  (e.2.2.2.2 = 91 ∨ e.2.2.2.2 = 95 → XCm e.2.1 e.2.2.1 ∧ (e.2.2.2.2 = 91 → Cond.methodLink (xnm (e.1 / 1000)) (e.1 % 1000) (xyn e.2.1) ∈ xTs) ∧ Cond.instanceMethod (xyn e.2.1) ∈ xTs ∧ Cond.initialized (xyn e.2.1).cls ∈ xTs ∧ (xyn e.2.1).name = "<init>" ∧ xrt e.2.1 = none) ∧
  (e.2.2.2.2 = 92 → Cond.methodLink (xnm (e.1 / 1000)) (e.1 % 1000) Lib.objectInit ∈ xTs ∧ Cond.instanceMethod Lib.objectInit ∈ xTs ∧ Cond.code Lib.objectInit ⟨#[0xb1]⟩ 1 none ∈ xTs) ∧
  (e.2.2.2.2 = 93 → Cond.methodLink (xnm (e.1 / 1000)) (e.1 % 1000) Lib.Math.min.name ∈ xTs ∧ Cond.static Lib.Math.min.name ∈ xTs ∧ Cond.initialized "java/lang/Math" ∈ xTs ∧ Cond.code Lib.Math.min.name Lib.Math.min.code 2 (some .int) ∈ xTs) ∧
  (e.2.2.2.2 = 94 → Cond.methodLink (xnm (e.1 / 1000)) (e.1 % 1000) Lib.MathLoose.max_long.x ∈ xTs ∧ Cond.static Lib.MathLoose.max_long.x ∈ xTs ∧ Cond.initialized "java/lang/Math" ∈ xTs ∧ Cond.code Lib.MathLoose.max_long.x Lib.MathLoose.max_long.code 4 (some .long) ∈ xTs) ∧ (e.2.2.2.2 = 96 → e.1 / 1000 = 13)
set_option maxRecDepth 20000 in
theorem m7_3 : XE7 (3, 0, 0, 0, 92) := ⟨fun h => absurd h (by decide), fun h => absurd h (by decide), fun h => absurd h (by decide), fun _ => ⟨xin_at 147 rfl rfl, xin_at 78 rfl rfl, xin_at 79 rfl rfl⟩, fun h => absurd h (by decide), fun h => absurd h (by decide), fun h => absurd h (by decide)⟩
set_option maxRecDepth 20000 in
theorem m7_19 : XE7 (19, 4, 1, 0, 0) := ⟨fun _ => ⟨cm_4, xin_at 520 rfl rfl, im_4, sel_4, ini_0, rfl⟩, fun h => absurd h (by decide), fun h => absurd h (by decide), fun h => absurd h (by decide), fun h => absurd h (by decide), fun h => absurd h (by decide), fun h => absurd h (by decide)⟩
set_option maxRecDepth 20000 in
theorem m7_23 : XE7 (23, 7, 0, 3, 0) := ⟨fun _ => ⟨cm_7, xin_at 960 rfl rfl, im_7, sel_7, ini_0, rfl⟩, fun h => absurd h (by decide), fun h => absurd h (by decide), fun h => absurd h (by decide), fun h => absurd h (by decide), fun h => absurd h (by decide), fun h => absurd h (by decide)⟩
set_option maxRecDepth 20000 in
theorem m7_27 : XE7 (27, 8, 1, 0, 0) := ⟨fun _ => ⟨cm_8, xin_at 966 rfl rfl, im_8, sel_8, ini_0, rfl⟩, fun h => absurd h (by decide), fun h => absurd h (by decide), fun h => absurd h (by decide), fun h => absurd h (by decide), fun h => absurd h (by decide), fun h => absurd h (by decide)⟩
set_option maxRecDepth 20000 in
theorem m7_34 : XE7 (34, 9, 0, 0, 0) := ⟨fun _ => ⟨cm_9, xin_at 972 rfl rfl, im_9, sel_9, ini_0, rfl⟩, fun h => absurd h (by decide), fun h => absurd h (by decide), fun h => absurd h (by decide), fun h => absurd h (by decide), fun h => absurd h (by decide), fun h => absurd h (by decide)⟩
set_option maxRecDepth 20000 in
theorem m7_43 : XE7 (43, 22, 0, 2, 1) := ⟨fun _ => ⟨cm_22, xin_at 540 rfl rfl, im_22, sel_22, ini_1, rfl⟩, fun h => absurd h (by decide), fun h => absurd h (by decide), fun h => absurd h (by decide), fun h => absurd h (by decide), fun h => absurd h (by decide), fun h => absurd h (by decide)⟩
set_option maxRecDepth 20000 in
theorem m7_49 : XE7 (49, 0, 2, 2, 94) := ⟨fun h => absurd h (by decide), fun h => absurd h (by decide), fun h => absurd h (by decide), fun h => absurd h (by decide), fun h => absurd h (by decide), fun _ => ⟨xin_at 549 rfl rfl, xin_at 550 rfl rfl, xin_at 66 rfl rfl, xin_at 551 rfl rfl⟩, fun h => absurd h (by decide)⟩
set_option maxRecDepth 20000 in
theorem m7_85 : XE7 (85, 70, 0, 1, 8) := ⟨fun _ => ⟨cm_70, xin_at 524 rfl rfl, im_70, sel_70, ini_8, rfl⟩, fun h => absurd h (by decide), fun h => absurd h (by decide), fun h => absurd h (by decide), fun h => absurd h (by decide), fun h => absurd h (by decide), fun h => absurd h (by decide)⟩
set_option maxRecDepth 20000 in
theorem m7_89 : XE7 (89, 5, 1, 0, 0) := ⟨fun _ => ⟨cm_5, xin_at 528 rfl rfl, im_5, sel_5, ini_0, rfl⟩, fun h => absurd h (by decide), fun h => absurd h (by decide), fun h => absurd h (by decide), fun h => absurd h (by decide), fun h => absurd h (by decide), fun h => absurd h (by decide)⟩
set_option maxRecDepth 20000 in
theorem m7_92 : XE7 (92, 20, 0, 1, 1) := ⟨fun _ => ⟨cm_20, xin_at 532 rfl rfl, im_20, sel_20, ini_1, rfl⟩, fun h => absurd h (by decide), fun h => absurd h (by decide), fun h => absurd h (by decide), fun h => absurd h (by decide), fun h => absurd h (by decide), fun h => absurd h (by decide)⟩
set_option maxRecDepth 20000 in
theorem m7_93 : XE7 (93, 6, 1, 0, 0) := ⟨fun _ => ⟨cm_6, xin_at 536 rfl rfl, im_6, sel_6, ini_0, rfl⟩, fun h => absurd h (by decide), fun h => absurd h (by decide), fun h => absurd h (by decide), fun h => absurd h (by decide), fun h => absurd h (by decide), fun h => absurd h (by decide)⟩
set_option maxRecDepth 20000 in
theorem m7_97 : XE7 (97, 25, 1, 3, 2) := ⟨fun _ => ⟨cm_25, xin_at 964 rfl rfl, im_25, sel_25, ini_2, rfl⟩, fun h => absurd h (by decide), fun h => absurd h (by decide), fun h => absurd h (by decide), fun h => absurd h (by decide), fun h => absurd h (by decide), fun h => absurd h (by decide)⟩
set_option maxRecDepth 20000 in
theorem m7_101 : XE7 (101, 21, 0, 1, 1) := ⟨fun _ => ⟨cm_21, xin_at 965 rfl rfl, im_21, sel_21, ini_1, rfl⟩, fun h => absurd h (by decide), fun h => absurd h (by decide), fun h => absurd h (by decide), fun h => absurd h (by decide), fun h => absurd h (by decide), fun h => absurd h (by decide)⟩
set_option maxRecDepth 20000 in
theorem m7_1003 : XE7 (1003, 0, 0, 0, 92) := ⟨fun h => absurd h (by decide), fun h => absurd h (by decide), fun h => absurd h (by decide), fun _ => ⟨xin_at 293 rfl rfl, xin_at 78 rfl rfl, xin_at 79 rfl rfl⟩, fun h => absurd h (by decide), fun h => absurd h (by decide), fun h => absurd h (by decide)⟩
set_option maxRecDepth 20000 in
theorem m7_1041 : XE7 (1041, 12, 1, 0, 1) := ⟨fun _ => ⟨cm_12, xin_at 901 rfl rfl, im_12, sel_12, ini_1, rfl⟩, fun h => absurd h (by decide), fun h => absurd h (by decide), fun h => absurd h (by decide), fun h => absurd h (by decide), fun h => absurd h (by decide), fun h => absurd h (by decide)⟩
set_option maxRecDepth 20000 in
theorem m7_1050 : XE7 (1050, 11, 1, 1, 1) := ⟨fun _ => ⟨cm_11, xin_at 637 rfl rfl, im_11, sel_11, ini_1, rfl⟩, fun h => absurd h (by decide), fun h => absurd h (by decide), fun h => absurd h (by decide), fun h => absurd h (by decide), fun h => absurd h (by decide), fun h => absurd h (by decide)⟩
set_option maxRecDepth 20000 in
theorem m7_1057 : XE7 (1057, 15, 1, 1, 1) := ⟨fun _ => ⟨cm_15, xin_at 641 rfl rfl, im_15, sel_15, ini_1, rfl⟩, fun h => absurd h (by decide), fun h => absurd h (by decide), fun h => absurd h (by decide), fun h => absurd h (by decide), fun h => absurd h (by decide), fun h => absurd h (by decide)⟩
set_option maxRecDepth 20000 in
theorem m7_1061 : XE7 (1061, 23, 1, 1, 1) := ⟨fun _ => ⟨cm_23, xin_at 859 rfl rfl, im_23, sel_23, ini_1, rfl⟩, fun h => absurd h (by decide), fun h => absurd h (by decide), fun h => absurd h (by decide), fun h => absurd h (by decide), fun h => absurd h (by decide), fun h => absurd h (by decide)⟩
set_option maxRecDepth 20000 in
theorem m7_1082 : XE7 (1082, 21, 0, 1, 1) := ⟨fun _ => ⟨cm_21, xin_at 544 rfl rfl, im_21, sel_21, ini_1, rfl⟩, fun h => absurd h (by decide), fun h => absurd h (by decide), fun h => absurd h (by decide), fun h => absurd h (by decide), fun h => absurd h (by decide), fun h => absurd h (by decide)⟩
set_option maxRecDepth 20000 in
theorem m7_2003 : XE7 (2003, 0, 0, 0, 92) := ⟨fun h => absurd h (by decide), fun h => absurd h (by decide), fun h => absurd h (by decide), fun _ => ⟨xin_at 85 rfl rfl, xin_at 78 rfl rfl, xin_at 79 rfl rfl⟩, fun h => absurd h (by decide), fun h => absurd h (by decide), fun h => absurd h (by decide)⟩
set_option maxRecDepth 20000 in
theorem m7_2024 : XE7 (2024, 10, 2, 0, 91) := ⟨fun h => absurd h (by decide), fun h => absurd h (by decide), fun _ => ⟨cm_10, fun _ => xin_at 290 rfl rfl, im_10, ini_1, rfl, rfl⟩, fun h => absurd h (by decide), fun h => absurd h (by decide), fun h => absurd h (by decide), fun h => absurd h (by decide)⟩
set_option maxRecDepth 20000 in
theorem m7_2030 : XE7 (2030, 11, 1, 1, 1) := ⟨fun _ => ⟨cm_11, xin_at 893 rfl rfl, im_11, sel_11, ini_1, rfl⟩, fun h => absurd h (by decide), fun h => absurd h (by decide), fun h => absurd h (by decide), fun h => absurd h (by decide), fun h => absurd h (by decide), fun h => absurd h (by decide)⟩
set_option maxRecDepth 20000 in
theorem m7_3003 : XE7 (3003, 0, 0, 0, 92) := ⟨fun h => absurd h (by decide), fun h => absurd h (by decide), fun h => absurd h (by decide), fun _ => ⟨xin_at 130 rfl rfl, xin_at 78 rfl rfl, xin_at 79 rfl rfl⟩, fun h => absurd h (by decide), fun h => absurd h (by decide), fun h => absurd h (by decide)⟩
set_option maxRecDepth 20000 in
theorem m7_3025 : XE7 (3025, 31, 2, 0, 3) := ⟨fun _ => ⟨cm_31, xin_at 884 rfl rfl, im_31, sel_31, ini_3, rfl⟩, fun h => absurd h (by decide), fun h => absurd h (by decide), fun h => absurd h (by decide), fun h => absurd h (by decide), fun h => absurd h (by decide), fun h => absurd h (by decide)⟩
set_option maxRecDepth 20000 in
theorem m7_3029 : XE7 (3029, 32, 3, 1, 3) := ⟨fun _ => ⟨cm_32, xin_at 902 rfl rfl, im_32, sel_32, ini_3, rfl⟩, fun h => absurd h (by decide), fun h => absurd h (by decide), fun h => absurd h (by decide), fun h => absurd h (by decide), fun h => absurd h (by decide), fun h => absurd h (by decide)⟩
set_option maxRecDepth 20000 in
theorem m7_3038 : XE7 (3038, 15, 1, 1, 1) := ⟨fun _ => ⟨cm_15, xin_at 888 rfl rfl, im_15, sel_15, ini_1, rfl⟩, fun h => absurd h (by decide), fun h => absurd h (by decide), fun h => absurd h (by decide), fun h => absurd h (by decide), fun h => absurd h (by decide), fun h => absurd h (by decide)⟩
set_option maxRecDepth 20000 in
theorem m7_3042 : XE7 (3042, 28, 1, 3, 2) := ⟨fun _ => ⟨cm_28, xin_at 889 rfl rfl, im_28, sel_28, ini_2, rfl⟩, fun h => absurd h (by decide), fun h => absurd h (by decide), fun h => absurd h (by decide), fun h => absurd h (by decide), fun h => absurd h (by decide), fun h => absurd h (by decide)⟩
set_option maxRecDepth 20000 in
theorem m7_3052 : XE7 (3052, 0, 2, 1, 93) := ⟨fun h => absurd h (by decide), fun h => absurd h (by decide), fun h => absurd h (by decide), fun h => absurd h (by decide), fun _ => ⟨xin_at 894 rfl rfl, xin_at 895 rfl rfl, xin_at 66 rfl rfl, xin_at 896 rfl rfl⟩, fun h => absurd h (by decide), fun h => absurd h (by decide)⟩
set_option maxRecDepth 20000 in
theorem m7_3058 : XE7 (3058, 14, 1, 0, 1) := ⟨fun _ => ⟨cm_14, xin_at 897 rfl rfl, im_14, sel_14, ini_1, rfl⟩, fun h => absurd h (by decide), fun h => absurd h (by decide), fun h => absurd h (by decide), fun h => absurd h (by decide), fun h => absurd h (by decide), fun h => absurd h (by decide)⟩
set_option maxRecDepth 20000 in
theorem m7_3062 : XE7 (3062, 92, 1, 3, 9) := ⟨fun _ => ⟨cm_92, xin_at 906 rfl rfl, im_92, sel_92, ini_9, rfl⟩, fun h => absurd h (by decide), fun h => absurd h (by decide), fun h => absurd h (by decide), fun h => absurd h (by decide), fun h => absurd h (by decide), fun h => absurd h (by decide)⟩
set_option maxRecDepth 20000 in
theorem m7_3071 : XE7 (3071, 87, 1, 1, 9) := ⟨fun _ => ⟨cm_87, xin_at 919 rfl rfl, im_87, sel_87, ini_9, rfl⟩, fun h => absurd h (by decide), fun h => absurd h (by decide), fun h => absurd h (by decide), fun h => absurd h (by decide), fun h => absurd h (by decide), fun h => absurd h (by decide)⟩
set_option maxRecDepth 20000 in
theorem m7_4003 : XE7 (4003, 0, 0, 0, 92) := ⟨fun h => absurd h (by decide), fun h => absurd h (by decide), fun h => absurd h (by decide), fun _ => ⟨xin_at 188 rfl rfl, xin_at 78 rfl rfl, xin_at 79 rfl rfl⟩, fun h => absurd h (by decide), fun h => absurd h (by decide), fun h => absurd h (by decide)⟩
set_option maxRecDepth 20000 in
theorem m7_4039 : XE7 (4039, 36, 2, 0, 4) := ⟨fun _ => ⟨cm_36, xin_at 512 rfl rfl, im_36, sel_36, ini_4, rfl⟩, fun h => absurd h (by decide), fun h => absurd h (by decide), fun h => absurd h (by decide), fun h => absurd h (by decide), fun h => absurd h (by decide), fun h => absurd h (by decide)⟩
set_option maxRecDepth 20000 in
theorem m7_5003 : XE7 (5003, 0, 0, 0, 92) := ⟨fun h => absurd h (by decide), fun h => absurd h (by decide), fun h => absurd h (by decide), fun _ => ⟨xin_at 164 rfl rfl, xin_at 78 rfl rfl, xin_at 79 rfl rfl⟩, fun h => absurd h (by decide), fun h => absurd h (by decide), fun h => absurd h (by decide)⟩
set_option maxRecDepth 20000 in
theorem m7_5025 : XE7 (5025, 57, 0, 0, 95) := ⟨fun h => absurd h (by decide), fun h => absurd h (by decide), fun _ => ⟨cm_57, fun h => absurd h (by decide), im_57, ini_6, rfl, rfl⟩, fun h => absurd h (by decide), fun h => absurd h (by decide), fun h => absurd h (by decide), fun h => absurd h (by decide)⟩
set_option maxRecDepth 20000 in
theorem m7_5030 : XE7 (5030, 33, 1, 0, 91) := ⟨fun h => absurd h (by decide), fun h => absurd h (by decide), fun _ => ⟨cm_33, fun _ => xin_at 185 rfl rfl, im_33, ini_4, rfl, rfl⟩, fun h => absurd h (by decide), fun h => absurd h (by decide), fun h => absurd h (by decide), fun h => absurd h (by decide)⟩
set_option maxRecDepth 20000 in
theorem m7_5041 : XE7 (5041, 44, 0, 3, 5) := ⟨fun _ => ⟨cm_44, xin_at 356 rfl rfl, im_44, sel_44, ini_5, rfl⟩, fun h => absurd h (by decide), fun h => absurd h (by decide), fun h => absurd h (by decide), fun h => absurd h (by decide), fun h => absurd h (by decide), fun h => absurd h (by decide)⟩
set_option maxRecDepth 20000 in
theorem m7_5045 : XE7 (5045, 45, 3, 3, 5) := ⟨fun _ => ⟨cm_45, xin_at 376 rfl rfl, im_45, sel_45, ini_5, rfl⟩, fun h => absurd h (by decide), fun h => absurd h (by decide), fun h => absurd h (by decide), fun h => absurd h (by decide), fun h => absurd h (by decide), fun h => absurd h (by decide)⟩
set_option maxRecDepth 20000 in
theorem m7_5053 : XE7 (5053, 93, 1, 0, 91) := ⟨fun h => absurd h (by decide), fun h => absurd h (by decide), fun _ => ⟨cm_93, fun _ => xin_at 361 rfl rfl, im_93, ini_10, rfl, rfl⟩, fun h => absurd h (by decide), fun h => absurd h (by decide), fun h => absurd h (by decide), fun h => absurd h (by decide)⟩
set_option maxRecDepth 20000 in
theorem m7_5054 : XE7 (5054, 34, 3, 0, 4) := ⟨fun _ => ⟨cm_34, xin_at 380 rfl rfl, im_34, sel_34, ini_4, rfl⟩, fun h => absurd h (by decide), fun h => absurd h (by decide), fun h => absurd h (by decide), fun h => absurd h (by decide), fun h => absurd h (by decide), fun h => absurd h (by decide)⟩
set_option maxRecDepth 20000 in
theorem m7_5067 : XE7 (5067, 46, 1, 1, 5) := ⟨fun _ => ⟨cm_46, xin_at 992 rfl rfl, im_46, sel_46, ini_5, rfl⟩, fun h => absurd h (by decide), fun h => absurd h (by decide), fun h => absurd h (by decide), fun h => absurd h (by decide), fun h => absurd h (by decide), fun h => absurd h (by decide)⟩
set_option maxRecDepth 20000 in
theorem m7_5077 : XE7 (5077, 50, 1, 0, 90) := ⟨fun h => absurd h (by decide), fun _ => ⟨cm_50, xin_at 505 rfl rfl, im_50, ini_5, rfl⟩, fun h => absurd h (by decide), fun h => absurd h (by decide), fun h => absurd h (by decide), fun h => absurd h (by decide), fun h => absurd h (by decide)⟩
set_option maxRecDepth 20000 in
theorem m7_5087 : XE7 (5087, 37, 2, 0, 4) := ⟨fun _ => ⟨cm_37, xin_at 508 rfl rfl, im_37, sel_37, ini_4, rfl⟩, fun h => absurd h (by decide), fun h => absurd h (by decide), fun h => absurd h (by decide), fun h => absurd h (by decide), fun h => absurd h (by decide), fun h => absurd h (by decide)⟩
set_option maxRecDepth 20000 in
theorem m7_5091 : XE7 (5091, 53, 2, 1, 5) := ⟨fun _ => ⟨cm_53, xin_at 988 rfl rfl, im_53, sel_53, ini_5, rfl⟩, fun h => absurd h (by decide), fun h => absurd h (by decide), fun h => absurd h (by decide), fun h => absurd h (by decide), fun h => absurd h (by decide), fun h => absurd h (by decide)⟩
set_option maxRecDepth 20000 in
theorem m7_5095 : XE7 (5095, 52, 4, 1, 5) := ⟨fun _ => ⟨cm_52, xin_at 996 rfl rfl, im_52, sel_52, ini_5, rfl⟩, fun h => absurd h (by decide), fun h => absurd h (by decide), fun h => absurd h (by decide), fun h => absurd h (by decide), fun h => absurd h (by decide), fun h => absurd h (by decide)⟩
set_option maxRecDepth 20000 in
theorem m7_5099 : XE7 (5099, 54, 2, 1, 90) := ⟨fun h => absurd h (by decide), fun _ => ⟨cm_54, xin_at 696 rfl rfl, im_54, ini_5, rfl⟩, fun h => absurd h (by decide), fun h => absurd h (by decide), fun h => absurd h (by decide), fun h => absurd h (by decide), fun h => absurd h (by decide)⟩
set_option maxRecDepth 20000 in
theorem m7_5103 : XE7 (5103, 35, 1, 3, 4) := ⟨fun _ => ⟨cm_35, xin_at 699 rfl rfl, im_35, sel_35, ini_4, rfl⟩, fun h => absurd h (by decide), fun h => absurd h (by decide), fun h => absurd h (by decide), fun h => absurd h (by decide), fun h => absurd h (by decide), fun h => absurd h (by decide)⟩
set_option maxRecDepth 20000 in
theorem m7_5113 : XE7 (5113, 56, 1, 0, 5) := ⟨fun _ => ⟨cm_56, xin_at 688 rfl rfl, im_56, sel_56, ini_5, rfl⟩, fun h => absurd h (by decide), fun h => absurd h (by decide), fun h => absurd h (by decide), fun h => absurd h (by decide), fun h => absurd h (by decide), fun h => absurd h (by decide)⟩
set_option maxRecDepth 20000 in
theorem m7_5116 : XE7 (5116, 38, 0, 0, 4) := ⟨fun _ => ⟨cm_38, xin_at 692 rfl rfl, im_38, sel_38, ini_4, rfl⟩, fun h => absurd h (by decide), fun h => absurd h (by decide), fun h => absurd h (by decide), fun h => absurd h (by decide), fun h => absurd h (by decide), fun h => absurd h (by decide)⟩
set_option maxRecDepth 20000 in
theorem m7_6003 : XE7 (6003, 0, 0, 0, 92) := ⟨fun h => absurd h (by decide), fun h => absurd h (by decide), fun h => absurd h (by decide), fun _ => ⟨xin_at 174 rfl rfl, xin_at 78 rfl rfl, xin_at 79 rfl rfl⟩, fun h => absurd h (by decide), fun h => absurd h (by decide), fun h => absurd h (by decide)⟩
set_option maxRecDepth 20000 in
theorem m7_6015 : XE7 (6015, 60, 2, 0, 6) := ⟨fun _ => ⟨cm_60, xin_at 673 rfl rfl, im_60, sel_60, ini_6, rfl⟩, fun h => absurd h (by decide), fun h => absurd h (by decide), fun h => absurd h (by decide), fun h => absurd h (by decide), fun h => absurd h (by decide), fun h => absurd h (by decide)⟩
set_option maxRecDepth 20000 in
theorem m7_6021 : XE7 (6021, 59, 1, 1, 90) := ⟨fun h => absurd h (by decide), fun _ => ⟨cm_59, xin_at 681 rfl rfl, im_59, ini_6, rfl⟩, fun h => absurd h (by decide), fun h => absurd h (by decide), fun h => absurd h (by decide), fun h => absurd h (by decide), fun h => absurd h (by decide)⟩
set_option maxRecDepth 20000 in
theorem m7_6032 : XE7 (6032, 35, 1, 3, 4) := ⟨fun _ => ⟨cm_35, xin_at 677 rfl rfl, im_35, sel_35, ini_4, rfl⟩, fun h => absurd h (by decide), fun h => absurd h (by decide), fun h => absurd h (by decide), fun h => absurd h (by decide), fun h => absurd h (by decide), fun h => absurd h (by decide)⟩
set_option maxRecDepth 20000 in
theorem m7_7003 : XE7 (7003, 0, 0, 0, 92) := ⟨fun h => absurd h (by decide), fun h => absurd h (by decide), fun h => absurd h (by decide), fun _ => ⟨xin_at 257 rfl rfl, xin_at 78 rfl rfl, xin_at 79 rfl rfl⟩, fun h => absurd h (by decide), fun h => absurd h (by decide), fun h => absurd h (by decide)⟩
set_option maxRecDepth 20000 in
theorem m7_7031 : XE7 (7031, 64, 0, 1, 7) := ⟨fun _ => ⟨cm_64, xin_at 452 rfl rfl, im_64, sel_64, ini_7, rfl⟩, fun h => absurd h (by decide), fun h => absurd h (by decide), fun h => absurd h (by decide), fun h => absurd h (by decide), fun h => absurd h (by decide), fun h => absurd h (by decide)⟩
set_option maxRecDepth 20000 in
theorem m7_8003 : XE7 (8003, 0, 0, 0, 92) := ⟨fun h => absurd h (by decide), fun h => absurd h (by decide), fun h => absurd h (by decide), fun _ => ⟨xin_at 392 rfl rfl, xin_at 78 rfl rfl, xin_at 79 rfl rfl⟩, fun h => absurd h (by decide), fun h => absurd h (by decide), fun h => absurd h (by decide)⟩
set_option maxRecDepth 20000 in
theorem m7_8052 : XE7 (8052, 12, 1, 0, 1) := ⟨fun _ => ⟨cm_12, xin_at 649 rfl rfl, im_12, sel_12, ini_1, rfl⟩, fun h => absurd h (by decide), fun h => absurd h (by decide), fun h => absurd h (by decide), fun h => absurd h (by decide), fun h => absurd h (by decide), fun h => absurd h (by decide)⟩
set_option maxRecDepth 20000 in
theorem m7_8058 : XE7 (8058, 13, 1, 0, 1) := ⟨fun _ => ⟨cm_13, xin_at 650 rfl rfl, im_13, sel_13, ini_1, rfl⟩, fun h => absurd h (by decide), fun h => absurd h (by decide), fun h => absurd h (by decide), fun h => absurd h (by decide), fun h => absurd h (by decide), fun h => absurd h (by decide)⟩
set_option maxRecDepth 20000 in
theorem m7_8061 : XE7 (8061, 66, 1, 0, 7) := ⟨fun _ => ⟨cm_66, xin_at 584 rfl rfl, im_66, sel_66, ini_7, rfl⟩, fun h => absurd h (by decide), fun h => absurd h (by decide), fun h => absurd h (by decide), fun h => absurd h (by decide), fun h => absurd h (by decide), fun h => absurd h (by decide)⟩
set_option maxRecDepth 20000 in
theorem m7_9003 : XE7 (9003, 0, 0, 0, 92) := ⟨fun h => absurd h (by decide), fun h => absurd h (by decide), fun h => absurd h (by decide), fun _ => ⟨xin_at 103 rfl rfl, xin_at 78 rfl rfl, xin_at 79 rfl rfl⟩, fun h => absurd h (by decide), fun h => absurd h (by decide), fun h => absurd h (by decide)⟩
set_option maxRecDepth 20000 in
theorem m7_9027 : XE7 (9027, 80, 1, 3, 9) := ⟨fun _ => ⟨cm_80, xin_at 484 rfl rfl, im_80, sel_80, ini_9, rfl⟩, fun h => absurd h (by decide), fun h => absurd h (by decide), fun h => absurd h (by decide), fun h => absurd h (by decide), fun h => absurd h (by decide), fun h => absurd h (by decide)⟩
set_option maxRecDepth 20000 in
theorem m7_9040 : XE7 (9040, 64, 0, 1, 7) := ⟨fun _ => ⟨cm_64, xin_at 496 rfl rfl, im_64, sel_64, ini_7, rfl⟩, fun h => absurd h (by decide), fun h => absurd h (by decide), fun h => absurd h (by decide), fun h => absurd h (by decide), fun h => absurd h (by decide), fun h => absurd h (by decide)⟩
set_option maxRecDepth 20000 in
theorem m7_9048 : XE7 (9048, 62, 2, 0, 91) := ⟨fun h => absurd h (by decide), fun h => absurd h (by decide), fun _ => ⟨cm_62, fun _ => xin_at 254 rfl rfl, im_62, ini_7, rfl, rfl⟩, fun h => absurd h (by decide), fun h => absurd h (by decide), fun h => absurd h (by decide), fun h => absurd h (by decide)⟩
set_option maxRecDepth 20000 in
theorem m7_9051 : XE7 (9051, 69, 5, 0, 91) := ⟨fun h => absurd h (by decide), fun h => absurd h (by decide), fun _ => ⟨cm_69, fun _ => xin_at 389 rfl rfl, im_69, ini_8, rfl, rfl⟩, fun h => absurd h (by decide), fun h => absurd h (by decide), fun h => absurd h (by decide), fun h => absurd h (by decide)⟩
set_option maxRecDepth 20000 in
theorem m7_9054 : XE7 (9054, 65, 1, 0, 7) := ⟨fun _ => ⟨cm_65, xin_at 448 rfl rfl, im_65, sel_65, ini_7, rfl⟩, fun h => absurd h (by decide), fun h => absurd h (by decide), fun h => absurd h (by decide), fun h => absurd h (by decide), fun h => absurd h (by decide), fun h => absurd h (by decide)⟩
set_option maxRecDepth 20000 in
theorem m7_9058 : XE7 (9058, 13, 1, 0, 1) := ⟨fun _ => ⟨cm_13, xin_at 456 rfl rfl, im_13, sel_13, ini_1, rfl⟩, fun h => absurd h (by decide), fun h => absurd h (by decide), fun h => absurd h (by decide), fun h => absurd h (by decide), fun h => absurd h (by decide), fun h => absurd h (by decide)⟩
set_option maxRecDepth 20000 in
theorem m7_9064 : XE7 (9064, 88, 1, 0, 9) := ⟨fun _ => ⟨cm_88, xin_at 560 rfl rfl, im_88, sel_88, ini_9, rfl⟩, fun h => absurd h (by decide), fun h => absurd h (by decide), fun h => absurd h (by decide), fun h => absurd h (by decide), fun h => absurd h (by decide), fun h => absurd h (by decide)⟩
set_option maxRecDepth 20000 in
theorem m7_9074 : XE7 (9074, 89, 1, 1, 9) := ⟨fun _ => ⟨cm_89, xin_at 572 rfl rfl, im_89, sel_89, ini_9, rfl⟩, fun h => absurd h (by decide), fun h => absurd h (by decide), fun h => absurd h (by decide), fun h => absurd h (by decide), fun h => absurd h (by decide), fun h => absurd h (by decide)⟩
set_option maxRecDepth 20000 in
theorem m7_9078 : XE7 (9078, 90, 0, 0, 9) := ⟨fun _ => ⟨cm_90, xin_at 588 rfl rfl, im_90, sel_90, ini_9, rfl⟩, fun h => absurd h (by decide), fun h => absurd h (by decide), fun h => absurd h (by decide), fun h => absurd h (by decide), fun h => absurd h (by decide), fun h => absurd h (by decide)⟩
set_option maxRecDepth 20000 in
theorem m7_9081 : XE7 (9081, 74, 0, 3, 8) := ⟨fun _ => ⟨cm_74, xin_at 564 rfl rfl, im_74, sel_74, ini_8, rfl⟩, fun h => absurd h (by decide), fun h => absurd h (by decide), fun h => absurd h (by decide), fun h => absurd h (by decide), fun h => absurd h (by decide), fun h => absurd h (by decide)⟩
set_option maxRecDepth 20000 in
theorem m7_9092 : XE7 (9092, 12, 1, 0, 1) := ⟨fun _ => ⟨cm_12, xin_at 568 rfl rfl, im_12, sel_12, ini_1, rfl⟩, fun h => absurd h (by decide), fun h => absurd h (by decide), fun h => absurd h (by decide), fun h => absurd h (by decide), fun h => absurd h (by decide), fun h => absurd h (by decide)⟩
set_option maxRecDepth 20000 in
theorem m7_9098 : XE7 (9098, 63, 1, 1, 7) := ⟨fun _ => ⟨cm_63, xin_at 576 rfl rfl, im_63, sel_63, ini_7, rfl⟩, fun h => absurd h (by decide), fun h => absurd h (by decide), fun h => absurd h (by decide), fun h => absurd h (by decide), fun h => absurd h (by decide), fun h => absurd h (by decide)⟩
set_option maxRecDepth 20000 in
theorem m7_9102 : XE7 (9102, 77, 0, 0, 8) := ⟨fun _ => ⟨cm_77, xin_at 580 rfl rfl, im_77, sel_77, ini_8, rfl⟩, fun h => absurd h (by decide), fun h => absurd h (by decide), fun h => absurd h (by decide), fun h => absurd h (by decide), fun h => absurd h (by decide), fun h => absurd h (by decide)⟩
set_option maxRecDepth 20000 in
theorem m7_9105 : XE7 (9105, 73, 0, 1, 8) := ⟨fun _ => ⟨cm_73, xin_at 592 rfl rfl, im_73, sel_73, ini_8, rfl⟩, fun h => absurd h (by decide), fun h => absurd h (by decide), fun h => absurd h (by decide), fun h => absurd h (by decide), fun h => absurd h (by decide), fun h => absurd h (by decide)⟩
set_option maxRecDepth 20000 in
theorem m7_9109 : XE7 (9109, 67, 1, 3, 7) := ⟨fun _ => ⟨cm_67, xin_at 604 rfl rfl, im_67, sel_67, ini_7, rfl⟩, fun h => absurd h (by decide), fun h => absurd h (by decide), fun h => absurd h (by decide), fun h => absurd h (by decide), fun h => absurd h (by decide), fun h => absurd h (by decide)⟩
set_option maxRecDepth 20000 in
theorem m7_9112 : XE7 (9112, 71, 0, 1, 8) := ⟨fun _ => ⟨cm_71, xin_at 910 rfl rfl, im_71, sel_71, ini_8, rfl⟩, fun h => absurd h (by decide), fun h => absurd h (by decide), fun h => absurd h (by decide), fun h => absurd h (by decide), fun h => absurd h (by decide), fun h => absurd h (by decide)⟩
set_option maxRecDepth 20000 in
theorem m7_9115 : XE7 (9115, 11, 1, 1, 1) := ⟨fun _ => ⟨cm_11, xin_at 914 rfl rfl, im_11, sel_11, ini_1, rfl⟩, fun h => absurd h (by decide), fun h => absurd h (by decide), fun h => absurd h (by decide), fun h => absurd h (by decide), fun h => absurd h (by decide), fun h => absurd h (by decide)⟩
set_option maxRecDepth 20000 in
theorem m7_9118 : XE7 (9118, 72, 0, 1, 8) := ⟨fun _ => ⟨cm_72, xin_at 915 rfl rfl, im_72, sel_72, ini_8, rfl⟩, fun h => absurd h (by decide), fun h => absurd h (by decide), fun h => absurd h (by decide), fun h => absurd h (by decide), fun h => absurd h (by decide), fun h => absurd h (by decide)⟩
set_option maxRecDepth 20000 in
theorem m7_10001 : XE7 (10001, 0, 0, 0, 92) := ⟨fun h => absurd h (by decide), fun h => absurd h (by decide), fun h => absurd h (by decide), fun _ => ⟨xin_at 364 rfl rfl, xin_at 78 rfl rfl, xin_at 79 rfl rfl⟩, fun h => absurd h (by decide), fun h => absurd h (by decide), fun h => absurd h (by decide)⟩
set_option maxRecDepth 20000 in
theorem m7_11001 : XE7 (11001, 0, 0, 0, 92) := ⟨fun h => absurd h (by decide), fun h => absurd h (by decide), fun h => absurd h (by decide), fun _ => ⟨xin_at 77 rfl rfl, xin_at 78 rfl rfl, xin_at 79 rfl rfl⟩, fun h => absurd h (by decide), fun h => absurd h (by decide), fun h => absurd h (by decide)⟩
set_option maxRecDepth 20000 in
theorem m7_11009 : XE7 (11009, 24, 0, 0, 95) := ⟨fun h => absurd h (by decide), fun h => absurd h (by decide), fun _ => ⟨cm_24, fun h => absurd h (by decide), im_24, ini_2, rfl, rfl⟩, fun h => absurd h (by decide), fun h => absurd h (by decide), fun h => absurd h (by decide), fun h => absurd h (by decide)⟩
set_option maxRecDepth 20000 in
theorem m7_11018 : XE7 (11018, 79, 0, 0, 95) := ⟨fun h => absurd h (by decide), fun h => absurd h (by decide), fun _ => ⟨cm_79, fun h => absurd h (by decide), im_79, ini_9, rfl, rfl⟩, fun h => absurd h (by decide), fun h => absurd h (by decide), fun h => absurd h (by decide), fun h => absurd h (by decide)⟩
set_option maxRecDepth 20000 in
theorem m7_11025 : XE7 (11025, 29, 2, 0, 91) := ⟨fun h => absurd h (by decide), fun h => absurd h (by decide), fun _ => ⟨cm_29, fun _ => xin_at 127 rfl rfl, im_29, ini_3, rfl, rfl⟩, fun h => absurd h (by decide), fun h => absurd h (by decide), fun h => absurd h (by decide), fun h => absurd h (by decide)⟩
set_option maxRecDepth 20000 in
theorem m7_11034 : XE7 (11034, 0, 2, 0, 91) := ⟨fun h => absurd h (by decide), fun h => absurd h (by decide), fun _ => ⟨cm_0, fun _ => xin_at 144 rfl rfl, im_0, ini_0, rfl, rfl⟩, fun h => absurd h (by decide), fun h => absurd h (by decide), fun h => absurd h (by decide), fun h => absurd h (by decide)⟩
set_option maxRecDepth 20000 in
theorem m7_11041 : XE7 (11041, 40, 0, 0, 91) := ⟨fun h => absurd h (by decide), fun h => absurd h (by decide), fun _ => ⟨cm_40, fun _ => xin_at 161 rfl rfl, im_40, ini_5, rfl, rfl⟩, fun h => absurd h (by decide), fun h => absurd h (by decide), fun h => absurd h (by decide), fun h => absurd h (by decide)⟩
set_option maxRecDepth 20000 in
theorem m7_11046 : XE7 (11046, 85, 1, 3, 9) := ⟨fun _ => ⟨cm_85, xin_at 249 rfl rfl, im_85, sel_85, ini_9, rfl⟩, fun h => absurd h (by decide), fun h => absurd h (by decide), fun h => absurd h (by decide), fun h => absurd h (by decide), fun h => absurd h (by decide), fun h => absurd h (by decide)⟩
set_option maxRecDepth 20000 in
theorem m7_11050 : XE7 (11050, 27, 1, 3, 2) := ⟨fun _ => ⟨cm_27, xin_at 285 rfl rfl, im_27, sel_27, ini_2, rfl⟩, fun h => absurd h (by decide), fun h => absurd h (by decide), fun h => absurd h (by decide), fun h => absurd h (by decide), fun h => absurd h (by decide), fun h => absurd h (by decide)⟩
set_option maxRecDepth 20000 in
theorem m7_11054 : XE7 (11054, 43, 0, 3, 5) := ⟨fun _ => ⟨cm_43, xin_at 352 rfl rfl, im_43, sel_43, ini_5, rfl⟩, fun h => absurd h (by decide), fun h => absurd h (by decide), fun h => absurd h (by decide), fun h => absurd h (by decide), fun h => absurd h (by decide), fun h => absurd h (by decide)⟩
set_option maxRecDepth 20000 in
theorem m7_11058 : XE7 (11058, 86, 4, 3, 9) := ⟨fun _ => ⟨cm_86, xin_at 384 rfl rfl, im_86, sel_86, ini_9, rfl⟩, fun h => absurd h (by decide), fun h => absurd h (by decide), fun h => absurd h (by decide), fun h => absurd h (by decide), fun h => absurd h (by decide), fun h => absurd h (by decide)⟩
set_option maxRecDepth 20000 in
theorem m7_11062 : XE7 (11062, 81, 1, 3, 9) := ⟨fun _ => ⟨cm_81, xin_at 480 rfl rfl, im_81, sel_81, ini_9, rfl⟩, fun h => absurd h (by decide), fun h => absurd h (by decide), fun h => absurd h (by decide), fun h => absurd h (by decide), fun h => absurd h (by decide), fun h => absurd h (by decide)⟩
set_option maxRecDepth 20000 in
theorem m7_11072 : XE7 (11072, 16, 0, 1, 1) := ⟨fun _ => ⟨cm_16, xin_at 488 rfl rfl, im_16, sel_16, ini_1, rfl⟩, fun h => absurd h (by decide), fun h => absurd h (by decide), fun h => absurd h (by decide), fun h => absurd h (by decide), fun h => absurd h (by decide), fun h => absurd h (by decide)⟩
set_option maxRecDepth 20000 in
theorem m7_11082 : XE7 (11082, 84, 2, 1, 9) := ⟨fun _ => ⟨cm_84, xin_at 492 rfl rfl, im_84, sel_84, ini_9, rfl⟩, fun h => absurd h (by decide), fun h => absurd h (by decide), fun h => absurd h (by decide), fun h => absurd h (by decide), fun h => absurd h (by decide), fun h => absurd h (by decide)⟩
set_option maxRecDepth 20000 in
theorem m7_11090 : XE7 (11090, 48, 1, 1, 5) := ⟨fun _ => ⟨cm_48, xin_at 497 rfl rfl, im_48, sel_48, ini_5, rfl⟩, fun h => absurd h (by decide), fun h => absurd h (by decide), fun h => absurd h (by decide), fun h => absurd h (by decide), fun h => absurd h (by decide), fun h => absurd h (by decide)⟩
set_option maxRecDepth 20000 in
theorem m7_11094 : XE7 (11094, 49, 1, 3, 5) := ⟨fun _ => ⟨cm_49, xin_at 501 rfl rfl, im_49, sel_49, ini_5, rfl⟩, fun h => absurd h (by decide), fun h => absurd h (by decide), fun h => absurd h (by decide), fun h => absurd h (by decide), fun h => absurd h (by decide), fun h => absurd h (by decide)⟩
set_option maxRecDepth 20000 in
theorem m7_11098 : XE7 (11098, 2, 2, 0, 0) := ⟨fun _ => ⟨cm_2, xin_at 516 rfl rfl, im_2, sel_2, ini_0, rfl⟩, fun h => absurd h (by decide), fun h => absurd h (by decide), fun h => absurd h (by decide), fun h => absurd h (by decide), fun h => absurd h (by decide), fun h => absurd h (by decide)⟩
set_option maxRecDepth 20000 in
theorem m7_11106 : XE7 (11106, 87, 1, 1, 9) := ⟨fun _ => ⟨cm_87, xin_at 556 rfl rfl, im_87, sel_87, ini_9, rfl⟩, fun h => absurd h (by decide), fun h => absurd h (by decide), fun h => absurd h (by decide), fun h => absurd h (by decide), fun h => absurd h (by decide), fun h => absurd h (by decide)⟩
set_option maxRecDepth 20000 in
theorem m7_11110 : XE7 (11110, 91, 1, 1, 9) := ⟨fun _ => ⟨cm_91, xin_at 600 rfl rfl, im_91, sel_91, ini_9, rfl⟩, fun h => absurd h (by decide), fun h => absurd h (by decide), fun h => absurd h (by decide), fun h => absurd h (by decide), fun h => absurd h (by decide), fun h => absurd h (by decide)⟩
set_option maxRecDepth 20000 in
theorem m7_11113 : XE7 (11113, 67, 1, 3, 7) := ⟨fun _ => ⟨cm_67, xin_at 612 rfl rfl, im_67, sel_67, ini_7, rfl⟩, fun h => absurd h (by decide), fun h => absurd h (by decide), fun h => absurd h (by decide), fun h => absurd h (by decide), fun h => absurd h (by decide), fun h => absurd h (by decide)⟩
set_option maxRecDepth 20000 in
theorem m7_11125 : XE7 (11125, 82, 1, 3, 9) := ⟨fun _ => ⟨cm_82, xin_at 716 rfl rfl, im_82, sel_82, ini_9, rfl⟩, fun h => absurd h (by decide), fun h => absurd h (by decide), fun h => absurd h (by decide), fun h => absurd h (by decide), fun h => absurd h (by decide), fun h => absurd h (by decide)⟩
set_option maxRecDepth 20000 in
theorem m7_11136 : XE7 (11136, 80, 1, 3, 9) := ⟨fun _ => ⟨cm_80, xin_at 659 rfl rfl, im_80, sel_80, ini_9, rfl⟩, fun h => absurd h (by decide), fun h => absurd h (by decide), fun h => absurd h (by decide), fun h => absurd h (by decide), fun h => absurd h (by decide), fun h => absurd h (by decide)⟩
set_option maxRecDepth 20000 in
theorem m7_11139 : XE7 (11139, 68, 1, 1, 7) := ⟨fun _ => ⟨cm_68, xin_at 787 rfl rfl, im_68, sel_68, ini_7, rfl⟩, fun h => absurd h (by decide), fun h => absurd h (by decide), fun h => absurd h (by decide), fun h => absurd h (by decide), fun h => absurd h (by decide), fun h => absurd h (by decide)⟩
set_option maxRecDepth 20000 in
theorem m7_11144 : XE7 (11144, 78, 1, 1, 8) := ⟨fun _ => ⟨cm_78, xin_at 806 rfl rfl, im_78, sel_78, ini_8, rfl⟩, fun h => absurd h (by decide), fun h => absurd h (by decide), fun h => absurd h (by decide), fun h => absurd h (by decide), fun h => absurd h (by decide), fun h => absurd h (by decide)⟩
set_option maxRecDepth 20000 in
theorem m7_11151 : XE7 (11151, 83, 1, 1, 9) := ⟨fun _ => ⟨cm_83, xin_at 817 rfl rfl, im_83, sel_83, ini_9, rfl⟩, fun h => absurd h (by decide), fun h => absurd h (by decide), fun h => absurd h (by decide), fun h => absurd h (by decide), fun h => absurd h (by decide), fun h => absurd h (by decide)⟩
set_option maxRecDepth 20000 in
theorem m7_11172 : XE7 (11172, 25, 1, 3, 2) := ⟨fun _ => ⟨cm_25, xin_at 617 rfl rfl, im_25, sel_25, ini_2, rfl⟩, fun h => absurd h (by decide), fun h => absurd h (by decide), fun h => absurd h (by decide), fun h => absurd h (by decide), fun h => absurd h (by decide), fun h => absurd h (by decide)⟩
set_option maxRecDepth 20000 in
theorem m7_11176 : XE7 (11176, 26, 1, 1, 2) := ⟨fun _ => ⟨cm_26, xin_at 621 rfl rfl, im_26, sel_26, ini_2, rfl⟩, fun h => absurd h (by decide), fun h => absurd h (by decide), fun h => absurd h (by decide), fun h => absurd h (by decide), fun h => absurd h (by decide), fun h => absurd h (by decide)⟩
set_option maxRecDepth 20000 in
theorem m7_11179 : XE7 (11179, 3, 1, 0, 0) := ⟨fun _ => ⟨cm_3, xin_at 625 rfl rfl, im_3, sel_3, ini_0, rfl⟩, fun h => absurd h (by decide), fun h => absurd h (by decide), fun h => absurd h (by decide), fun h => absurd h (by decide), fun h => absurd h (by decide), fun h => absurd h (by decide)⟩
set_option maxRecDepth 20000 in
theorem m7_11198 : XE7 (11198, 18, 2, 1, 1) := ⟨fun _ => ⟨cm_18, xin_at 851 rfl rfl, im_18, sel_18, ini_1, rfl⟩, fun h => absurd h (by decide), fun h => absurd h (by decide), fun h => absurd h (by decide), fun h => absurd h (by decide), fun h => absurd h (by decide), fun h => absurd h (by decide)⟩
set_option maxRecDepth 20000 in
theorem m7_11202 : XE7 (11202, 19, 2, 1, 1) := ⟨fun _ => ⟨cm_19, xin_at 855 rfl rfl, im_19, sel_19, ini_1, rfl⟩, fun h => absurd h (by decide), fun h => absurd h (by decide), fun h => absurd h (by decide), fun h => absurd h (by decide), fun h => absurd h (by decide), fun h => absurd h (by decide)⟩
set_option maxRecDepth 20000 in
theorem m7_11206 : XE7 (11206, 23, 1, 1, 1) := ⟨fun _ => ⟨cm_23, xin_at 870 rfl rfl, im_23, sel_23, ini_1, rfl⟩, fun h => absurd h (by decide), fun h => absurd h (by decide), fun h => absurd h (by decide), fun h => absurd h (by decide), fun h => absurd h (by decide), fun h => absurd h (by decide)⟩
set_option maxRecDepth 20000 in
theorem m7_11210 : XE7 (11210, 30, 2, 1, 3) := ⟨fun _ => ⟨cm_30, xin_at 880 rfl rfl, im_30, sel_30, ini_3, rfl⟩, fun h => absurd h (by decide), fun h => absurd h (by decide), fun h => absurd h (by decide), fun h => absurd h (by decide), fun h => absurd h (by decide), fun h => absurd h (by decide)⟩
set_option maxRecDepth 20000 in
theorem m7_11214 : XE7 (11214, 75, 1, 0, 8) := ⟨fun _ => ⟨cm_75, xin_at 920 rfl rfl, im_75, sel_75, ini_8, rfl⟩, fun h => absurd h (by decide), fun h => absurd h (by decide), fun h => absurd h (by decide), fun h => absurd h (by decide), fun h => absurd h (by decide), fun h => absurd h (by decide)⟩
set_option maxRecDepth 20000 in
theorem m7_11223 : XE7 (11223, 14, 1, 0, 1) := ⟨fun _ => ⟨cm_14, xin_at 939 rfl rfl, im_14, sel_14, ini_1, rfl⟩, fun h => absurd h (by decide), fun h => absurd h (by decide), fun h => absurd h (by decide), fun h => absurd h (by decide), fun h => absurd h (by decide), fun h => absurd h (by decide)⟩
set_option maxRecDepth 20000 in
theorem m7_11229 : XE7 (11229, 17, 1, 1, 1) := ⟨fun _ => ⟨cm_17, xin_at 633 rfl rfl, im_17, sel_17, ini_1, rfl⟩, fun h => absurd h (by decide), fun h => absurd h (by decide), fun h => absurd h (by decide), fun h => absurd h (by decide), fun h => absurd h (by decide), fun h => absurd h (by decide)⟩
set_option maxRecDepth 20000 in
theorem m7_11233 : XE7 (11233, 76, 1, 0, 8) := ⟨fun _ => ⟨cm_76, xin_at 645 rfl rfl, im_76, sel_76, ini_8, rfl⟩, fun h => absurd h (by decide), fun h => absurd h (by decide), fun h => absurd h (by decide), fun h => absurd h (by decide), fun h => absurd h (by decide), fun h => absurd h (by decide)⟩
set_option maxRecDepth 20000 in
theorem m7_11243 : XE7 (11243, 1, 0, 3, 0) := ⟨fun _ => ⟨cm_1, xin_at 956 rfl rfl, im_1, sel_1, ini_0, rfl⟩, fun h => absurd h (by decide), fun h => absurd h (by decide), fun h => absurd h (by decide), fun h => absurd h (by decide), fun h => absurd h (by decide), fun h => absurd h (by decide)⟩
set_option maxRecDepth 20000 in
theorem m7_11267 : XE7 (11267, 58, 2, 1, 6) := ⟨fun _ => ⟨cm_58, xin_at 669 rfl rfl, im_58, sel_58, ini_6, rfl⟩, fun h => absurd h (by decide), fun h => absurd h (by decide), fun h => absurd h (by decide), fun h => absurd h (by decide), fun h => absurd h (by decide), fun h => absurd h (by decide)⟩
set_option maxRecDepth 20000 in
theorem m7_11280 : XE7 (11280, 51, 4, 1, 5) := ⟨fun _ => ⟨cm_51, xin_at 984 rfl rfl, im_51, sel_51, ini_5, rfl⟩, fun h => absurd h (by decide), fun h => absurd h (by decide), fun h => absurd h (by decide), fun h => absurd h (by decide), fun h => absurd h (by decide), fun h => absurd h (by decide)⟩
set_option maxRecDepth 20000 in
theorem m7_11284 : XE7 (11284, 55, 1, 1, 5) := ⟨fun _ => ⟨cm_55, xin_at 684 rfl rfl, im_55, sel_55, ini_5, rfl⟩, fun h => absurd h (by decide), fun h => absurd h (by decide), fun h => absurd h (by decide), fun h => absurd h (by decide), fun h => absurd h (by decide), fun h => absurd h (by decide)⟩
set_option maxRecDepth 20000 in
theorem m7_11288 : XE7 (11288, 61, 0, 1, 6) := ⟨fun _ => ⟨cm_61, xin_at 704 rfl rfl, im_61, sel_61, ini_6, rfl⟩, fun h => absurd h (by decide), fun h => absurd h (by decide), fun h => absurd h (by decide), fun h => absurd h (by decide), fun h => absurd h (by decide), fun h => absurd h (by decide)⟩
set_option maxRecDepth 20000 in
theorem m7_11292 : XE7 (11292, 41, 1, 3, 5) := ⟨fun _ => ⟨cm_41, xin_at 1007 rfl rfl, im_41, sel_41, ini_5, rfl⟩, fun h => absurd h (by decide), fun h => absurd h (by decide), fun h => absurd h (by decide), fun h => absurd h (by decide), fun h => absurd h (by decide), fun h => absurd h (by decide)⟩
set_option maxRecDepth 20000 in
theorem m7_11303 : XE7 (11303, 47, 2, 1, 5) := ⟨fun _ => ⟨cm_47, xin_at 1012 rfl rfl, im_47, sel_47, ini_5, rfl⟩, fun h => absurd h (by decide), fun h => absurd h (by decide), fun h => absurd h (by decide), fun h => absurd h (by decide), fun h => absurd h (by decide), fun h => absurd h (by decide)⟩
set_option maxRecDepth 20000 in
theorem m7_11309 : XE7 (11309, 42, 1, 3, 5) := ⟨fun _ => ⟨cm_42, xin_at 1024 rfl rfl, im_42, sel_42, ini_5, rfl⟩, fun h => absurd h (by decide), fun h => absurd h (by decide), fun h => absurd h (by decide), fun h => absurd h (by decide), fun h => absurd h (by decide), fun h => absurd h (by decide)⟩
set_option maxRecDepth 20000 in
theorem m7_11313 : XE7 (11313, 39, 1, 1, 4) := ⟨fun _ => ⟨cm_39, xin_at 1028 rfl rfl, im_39, sel_39, ini_4, rfl⟩, fun h => absurd h (by decide), fun h => absurd h (by decide), fun h => absurd h (by decide), fun h => absurd h (by decide), fun h => absurd h (by decide), fun h => absurd h (by decide)⟩
set_option maxRecDepth 20000 in
theorem m7_12001 : XE7 (12001, 0, 0, 0, 92) := ⟨fun h => absurd h (by decide), fun h => absurd h (by decide), fun h => absurd h (by decide), fun _ => ⟨xin_at 1037 rfl rfl, xin_at 78 rfl rfl, xin_at 79 rfl rfl⟩, fun h => absurd h (by decide), fun h => absurd h (by decide), fun h => absurd h (by decide)⟩
set_option maxRecDepth 20000 in
theorem m7_12109 : XE7 (12109, 144, 1, 1, 12) := ⟨fun _ => ⟨cm_144, xin_at 1038 rfl rfl, im_144, sel_144, ini_12, rfl⟩, fun h => absurd h (by decide), fun h => absurd h (by decide), fun h => absurd h (by decide), fun h => absurd h (by decide), fun h => absurd h (by decide), fun h => absurd h (by decide)⟩
set_option maxRecDepth 20000 in
theorem m7_12116 : XE7 (12116, 168, 5, 1, 12) := ⟨fun _ => ⟨cm_168, xin_at 1043 rfl rfl, im_168, sel_168, ini_12, rfl⟩, fun h => absurd h (by decide), fun h => absurd h (by decide), fun h => absurd h (by decide), fun h => absurd h (by decide), fun h => absurd h (by decide), fun h => absurd h (by decide)⟩
set_option maxRecDepth 20000 in
theorem m7_12126 : XE7 (12126, 122, 3, 1, 90) := ⟨fun h => absurd h (by decide), fun _ => ⟨cm_122, xin_at 1190 rfl rfl, im_122, ini_12, rfl⟩, fun h => absurd h (by decide), fun h => absurd h (by decide), fun h => absurd h (by decide), fun h => absurd h (by decide), fun h => absurd h (by decide)⟩
set_option maxRecDepth 20000 in
theorem m7_12130 : XE7 (12130, 123, 1, 1, 12) := ⟨fun _ => ⟨cm_123, xin_at 1186 rfl rfl, im_123, sel_123, ini_12, rfl⟩, fun h => absurd h (by decide), fun h => absurd h (by decide), fun h => absurd h (by decide), fun h => absurd h (by decide), fun h => absurd h (by decide), fun h => absurd h (by decide)⟩
set_option maxRecDepth 20000 in
theorem m7_12137 : XE7 (12137, 128, 2, 1, 12) := ⟨fun _ => ⟨cm_128, xin_at 1217 rfl rfl, im_128, sel_128, ini_12, rfl⟩, fun h => absurd h (by decide), fun h => absurd h (by decide), fun h => absurd h (by decide), fun h => absurd h (by decide), fun h => absurd h (by decide), fun h => absurd h (by decide)⟩
set_option maxRecDepth 20000 in
theorem m7_12141 : XE7 (12141, 124, 1, 1, 12) := ⟨fun _ => ⟨cm_124, xin_at 1182 rfl rfl, im_124, sel_124, ini_12, rfl⟩, fun h => absurd h (by decide), fun h => absurd h (by decide), fun h => absurd h (by decide), fun h => absurd h (by decide), fun h => absurd h (by decide), fun h => absurd h (by decide)⟩
set_option maxRecDepth 20000 in
theorem m7_12144 : XE7 (12144, 145, 1, 1, 12) := ⟨fun _ => ⟨cm_145, xin_at 1193 rfl rfl, im_145, sel_145, ini_12, rfl⟩, fun h => absurd h (by decide), fun h => absurd h (by decide), fun h => absurd h (by decide), fun h => absurd h (by decide), fun h => absurd h (by decide), fun h => absurd h (by decide)⟩
set_option maxRecDepth 20000 in
theorem m7_12147 : XE7 (12147, 130, 1, 1, 12) := ⟨fun _ => ⟨cm_130, xin_at 1201 rfl rfl, im_130, sel_130, ini_12, rfl⟩, fun h => absurd h (by decide), fun h => absurd h (by decide), fun h => absurd h (by decide), fun h => absurd h (by decide), fun h => absurd h (by decide), fun h => absurd h (by decide)⟩
set_option maxRecDepth 20000 in
theorem m7_12150 : XE7 (12150, 132, 1, 1, 12) := ⟨fun _ => ⟨cm_132, xin_at 1205 rfl rfl, im_132, sel_132, ini_12, rfl⟩, fun h => absurd h (by decide), fun h => absurd h (by decide), fun h => absurd h (by decide), fun h => absurd h (by decide), fun h => absurd h (by decide), fun h => absurd h (by decide)⟩
set_option maxRecDepth 20000 in
theorem m7_12153 : XE7 (12153, 131, 0, 1, 12) := ⟨fun _ => ⟨cm_131, xin_at 1209 rfl rfl, im_131, sel_131, ini_12, rfl⟩, fun h => absurd h (by decide), fun h => absurd h (by decide), fun h => absurd h (by decide), fun h => absurd h (by decide), fun h => absurd h (by decide), fun h => absurd h (by decide)⟩
set_option maxRecDepth 20000 in
theorem m7_12157 : XE7 (12157, 129, 1, 1, 12) := ⟨fun _ => ⟨cm_129, xin_at 1213 rfl rfl, im_129, sel_129, ini_12, rfl⟩, fun h => absurd h (by decide), fun h => absurd h (by decide), fun h => absurd h (by decide), fun h => absurd h (by decide), fun h => absurd h (by decide), fun h => absurd h (by decide)⟩
set_option maxRecDepth 20000 in
theorem m7_12160 : XE7 (12160, 169, 1, 1, 12) := ⟨fun _ => ⟨cm_169, xin_at 1221 rfl rfl, im_169, sel_169, ini_12, rfl⟩, fun h => absurd h (by decide), fun h => absurd h (by decide), fun h => absurd h (by decide), fun h => absurd h (by decide), fun h => absurd h (by decide), fun h => absurd h (by decide)⟩
set_option maxRecDepth 20000 in
theorem m7_12163 : XE7 (12163, 162, 2, 0, 12) := ⟨fun _ => ⟨cm_162, xin_at 1225 rfl rfl, im_162, sel_162, ini_12, rfl⟩, fun h => absurd h (by decide), fun h => absurd h (by decide), fun h => absurd h (by decide), fun h => absurd h (by decide), fun h => absurd h (by decide), fun h => absurd h (by decide)⟩
set_option maxRecDepth 20000 in
theorem m7_12167 : XE7 (12167, 135, 1, 0, 12) := ⟨fun _ => ⟨cm_135, xin_at 1250 rfl rfl, im_135, sel_135, ini_12, rfl⟩, fun h => absurd h (by decide), fun h => absurd h (by decide), fun h => absurd h (by decide), fun h => absurd h (by decide), fun h => absurd h (by decide), fun h => absurd h (by decide)⟩
set_option maxRecDepth 20000 in
theorem m7_12171 : XE7 (12171, 126, 2, 1, 12) := ⟨fun _ => ⟨cm_126, xin_at 1254 rfl rfl, im_126, sel_126, ini_12, rfl⟩, fun h => absurd h (by decide), fun h => absurd h (by decide), fun h => absurd h (by decide), fun h => absurd h (by decide), fun h => absurd h (by decide), fun h => absurd h (by decide)⟩
set_option maxRecDepth 20000 in
theorem m7_12175 : XE7 (12175, 134, 1, 0, 12) := ⟨fun _ => ⟨cm_134, xin_at 1258 rfl rfl, im_134, sel_134, ini_12, rfl⟩, fun h => absurd h (by decide), fun h => absurd h (by decide), fun h => absurd h (by decide), fun h => absurd h (by decide), fun h => absurd h (by decide), fun h => absurd h (by decide)⟩
set_option maxRecDepth 20000 in
theorem m7_12178 : XE7 (12178, 136, 1, 1, 12) := ⟨fun _ => ⟨cm_136, xin_at 1246 rfl rfl, im_136, sel_136, ini_12, rfl⟩, fun h => absurd h (by decide), fun h => absurd h (by decide), fun h => absurd h (by decide), fun h => absurd h (by decide), fun h => absurd h (by decide), fun h => absurd h (by decide)⟩
set_option maxRecDepth 20000 in
theorem m7_12194 : XE7 (12194, 127, 2, 1, 12) := ⟨fun _ => ⟨cm_127, xin_at 1197 rfl rfl, im_127, sel_127, ini_12, rfl⟩, fun h => absurd h (by decide), fun h => absurd h (by decide), fun h => absurd h (by decide), fun h => absurd h (by decide), fun h => absurd h (by decide), fun h => absurd h (by decide)⟩
set_option maxRecDepth 20000 in
theorem m7_12197 : XE7 (12197, 125, 1, 1, 12) := ⟨fun _ => ⟨cm_125, xin_at 1293 rfl rfl, im_125, sel_125, ini_12, rfl⟩, fun h => absurd h (by decide), fun h => absurd h (by decide), fun h => absurd h (by decide), fun h => absurd h (by decide), fun h => absurd h (by decide), fun h => absurd h (by decide)⟩
set_option maxRecDepth 20000 in
theorem m7_12200 : XE7 (12200, 161, 3, 2, 12) := ⟨fun _ => ⟨cm_161, xin_at 1229 rfl rfl, im_161, sel_161, ini_12, rfl⟩, fun h => absurd h (by decide), fun h => absurd h (by decide), fun h => absurd h (by decide), fun h => absurd h (by decide), fun h => absurd h (by decide), fun h => absurd h (by decide)⟩
set_option maxRecDepth 20000 in
theorem m7_12214 : XE7 (12214, 146, 1, 1, 12) := ⟨fun _ => ⟨cm_146, xin_at 1306 rfl rfl, im_146, sel_146, ini_12, rfl⟩, fun h => absurd h (by decide), fun h => absurd h (by decide), fun h => absurd h (by decide), fun h => absurd h (by decide), fun h => absurd h (by decide), fun h => absurd h (by decide)⟩
set_option maxRecDepth 20000 in
theorem m7_12217 : XE7 (12217, 150, 2, 1, 12) := ⟨fun _ => ⟨cm_150, xin_at 1322 rfl rfl, im_150, sel_150, ini_12, rfl⟩, fun h => absurd h (by decide), fun h => absurd h (by decide), fun h => absurd h (by decide), fun h => absurd h (by decide), fun h => absurd h (by decide), fun h => absurd h (by decide)⟩
set_option maxRecDepth 20000 in
theorem m7_12220 : XE7 (12220, 151, 2, 0, 12) := ⟨fun _ => ⟨cm_151, xin_at 1326 rfl rfl, im_151, sel_151, ini_12, rfl⟩, fun h => absurd h (by decide), fun h => absurd h (by decide), fun h => absurd h (by decide), fun h => absurd h (by decide), fun h => absurd h (by decide), fun h => absurd h (by decide)⟩
set_option maxRecDepth 20000 in
theorem m7_12224 : XE7 (12224, 152, 1, 1, 12) := ⟨fun _ => ⟨cm_152, xin_at 1330 rfl rfl, im_152, sel_152, ini_12, rfl⟩, fun h => absurd h (by decide), fun h => absurd h (by decide), fun h => absurd h (by decide), fun h => absurd h (by decide), fun h => absurd h (by decide), fun h => absurd h (by decide)⟩
set_option maxRecDepth 20000 in
theorem m7_12227 : XE7 (12227, 153, 2, 1, 12) := ⟨fun _ => ⟨cm_153, xin_at 1318 rfl rfl, im_153, sel_153, ini_12, rfl⟩, fun h => absurd h (by decide), fun h => absurd h (by decide), fun h => absurd h (by decide), fun h => absurd h (by decide), fun h => absurd h (by decide), fun h => absurd h (by decide)⟩
set_option maxRecDepth 20000 in
theorem m7_12234 : XE7 (12234, 159, 1, 1, 12) := ⟨fun _ => ⟨cm_159, xin_at 1238 rfl rfl, im_159, sel_159, ini_12, rfl⟩, fun h => absurd h (by decide), fun h => absurd h (by decide), fun h => absurd h (by decide), fun h => absurd h (by decide), fun h => absurd h (by decide), fun h => absurd h (by decide)⟩
set_option maxRecDepth 20000 in
theorem m7_12239 : XE7 (12239, 160, 0, 0, 12) := ⟨fun _ => ⟨cm_160, xin_at 1234 rfl rfl, im_160, sel_160, ini_12, rfl⟩, fun h => absurd h (by decide), fun h => absurd h (by decide), fun h => absurd h (by decide), fun h => absurd h (by decide), fun h => absurd h (by decide), fun h => absurd h (by decide)⟩
set_option maxRecDepth 20000 in
theorem m7_12246 : XE7 (12246, 163, 0, 1, 12) := ⟨fun _ => ⟨cm_163, xin_at 1357 rfl rfl, im_163, sel_163, ini_12, rfl⟩, fun h => absurd h (by decide), fun h => absurd h (by decide), fun h => absurd h (by decide), fun h => absurd h (by decide), fun h => absurd h (by decide), fun h => absurd h (by decide)⟩
set_option maxRecDepth 20000 in
theorem m7_12255 : XE7 (12255, 170, 2, 1, 12) := ⟨fun _ => ⟨cm_170, xin_at 1387 rfl rfl, im_170, sel_170, ini_12, rfl⟩, fun h => absurd h (by decide), fun h => absurd h (by decide), fun h => absurd h (by decide), fun h => absurd h (by decide), fun h => absurd h (by decide), fun h => absurd h (by decide)⟩
set_option maxRecDepth 20000 in
theorem m7_12258 : XE7 (12258, 171, 0, 0, 12) := ⟨fun _ => ⟨cm_171, xin_at 1383 rfl rfl, im_171, sel_171, ini_12, rfl⟩, fun h => absurd h (by decide), fun h => absurd h (by decide), fun h => absurd h (by decide), fun h => absurd h (by decide), fun h => absurd h (by decide), fun h => absurd h (by decide)⟩
set_option maxRecDepth 20000 in
theorem m7_12263 : XE7 (12263, 172, 2, 1, 12) := ⟨fun _ => ⟨cm_172, xin_at 1379 rfl rfl, im_172, sel_172, ini_12, rfl⟩, fun h => absurd h (by decide), fun h => absurd h (by decide), fun h => absurd h (by decide), fun h => absurd h (by decide), fun h => absurd h (by decide), fun h => absurd h (by decide)⟩
set_option maxRecDepth 20000 in
theorem m7_12266 : XE7 (12266, 174, 3, 1, 12) := ⟨fun _ => ⟨cm_174, xin_at 1391 rfl rfl, im_174, sel_174, ini_12, rfl⟩, fun h => absurd h (by decide), fun h => absurd h (by decide), fun h => absurd h (by decide), fun h => absurd h (by decide), fun h => absurd h (by decide), fun h => absurd h (by decide)⟩
set_option maxRecDepth 20000 in
theorem m7_12273 : XE7 (12273, 175, 1, 1, 12) := ⟨fun _ => ⟨cm_175, xin_at 1399 rfl rfl, im_175, sel_175, ini_12, rfl⟩, fun h => absurd h (by decide), fun h => absurd h (by decide), fun h => absurd h (by decide), fun h => absurd h (by decide), fun h => absurd h (by decide), fun h => absurd h (by decide)⟩
set_option maxRecDepth 20000 in
theorem m7_13007 : XE7 (13007, 99, 2, 1, 11) := ⟨fun _ => ⟨cm_99, xin_at 712 rfl rfl, im_99, sel_99, ini_11, rfl⟩, fun h => absurd h (by decide), fun h => absurd h (by decide), fun h => absurd h (by decide), fun h => absurd h (by decide), fun h => absurd h (by decide), fun h => absurd h (by decide)⟩
set_option maxRecDepth 20000 in
theorem m7_13015 : XE7 (13015, 100, 2, 1, 11) := ⟨fun _ => ⟨cm_100, xin_at 794 rfl rfl, im_100, sel_100, ini_11, rfl⟩, fun h => absurd h (by decide), fun h => absurd h (by decide), fun h => absurd h (by decide), fun h => absurd h (by decide), fun h => absurd h (by decide), fun h => absurd h (by decide)⟩
set_option maxRecDepth 20000 in
theorem m7_13018 : XE7 (13018, 101, 2, 1, 11) := ⟨fun _ => ⟨cm_101, xin_at 801 rfl rfl, im_101, sel_101, ini_11, rfl⟩, fun h => absurd h (by decide), fun h => absurd h (by decide), fun h => absurd h (by decide), fun h => absurd h (by decide), fun h => absurd h (by decide), fun h => absurd h (by decide)⟩
set_option maxRecDepth 20000 in
theorem m7_13021 : XE7 (13021, 102, 1, 1, 11) := ⟨fun _ => ⟨cm_102, xin_at 813 rfl rfl, im_102, sel_102, ini_11, rfl⟩, fun h => absurd h (by decide), fun h => absurd h (by decide), fun h => absurd h (by decide), fun h => absurd h (by decide), fun h => absurd h (by decide), fun h => absurd h (by decide)⟩
set_option maxRecDepth 20000 in
theorem m7_13025 : XE7 (13025, 104, 3, 1, 11) := ⟨fun _ => ⟨cm_104, xin_at 826 rfl rfl, im_104, sel_104, ini_11, rfl⟩, fun h => absurd h (by decide), fun h => absurd h (by decide), fun h => absurd h (by decide), fun h => absurd h (by decide), fun h => absurd h (by decide), fun h => absurd h (by decide)⟩
set_option maxRecDepth 20000 in
theorem m7_13031 : XE7 (13031, 105, 2, 1, 11) := ⟨fun _ => ⟨cm_105, xin_at 866 rfl rfl, im_105, sel_105, ini_11, rfl⟩, fun h => absurd h (by decide), fun h => absurd h (by decide), fun h => absurd h (by decide), fun h => absurd h (by decide), fun h => absurd h (by decide), fun h => absurd h (by decide)⟩
set_option maxRecDepth 20000 in
theorem m7_13034 : XE7 (13034, 106, 2, 1, 11) := ⟨fun _ => ⟨cm_106, xin_at 874 rfl rfl, im_106, sel_106, ini_11, rfl⟩, fun h => absurd h (by decide), fun h => absurd h (by decide), fun h => absurd h (by decide), fun h => absurd h (by decide), fun h => absurd h (by decide), fun h => absurd h (by decide)⟩
set_option maxRecDepth 20000 in
theorem m7_13037 : XE7 (13037, 107, 2, 1, 11) := ⟨fun _ => ⟨cm_107, xin_at 927 rfl rfl, im_107, sel_107, ini_11, rfl⟩, fun h => absurd h (by decide), fun h => absurd h (by decide), fun h => absurd h (by decide), fun h => absurd h (by decide), fun h => absurd h (by decide), fun h => absurd h (by decide)⟩
set_option maxRecDepth 20000 in
theorem m7_13040 : XE7 (13040, 108, 2, 1, 11) := ⟨fun _ => ⟨cm_108, xin_at 935 rfl rfl, im_108, sel_108, ini_11, rfl⟩, fun h => absurd h (by decide), fun h => absurd h (by decide), fun h => absurd h (by decide), fun h => absurd h (by decide), fun h => absurd h (by decide), fun h => absurd h (by decide)⟩
set_option maxRecDepth 20000 in
theorem m7_13043 : XE7 (13043, 110, 2, 1, 11) := ⟨fun _ => ⟨cm_110, xin_at 943 rfl rfl, im_110, sel_110, ini_11, rfl⟩, fun h => absurd h (by decide), fun h => absurd h (by decide), fun h => absurd h (by decide), fun h => absurd h (by decide), fun h => absurd h (by decide), fun h => absurd h (by decide)⟩
set_option maxRecDepth 20000 in
theorem m7_13046 : XE7 (13046, 111, 1, 1, 11) := ⟨fun _ => ⟨cm_111, xin_at 951 rfl rfl, im_111, sel_111, ini_11, rfl⟩, fun h => absurd h (by decide), fun h => absurd h (by decide), fun h => absurd h (by decide), fun h => absurd h (by decide), fun h => absurd h (by decide), fun h => absurd h (by decide)⟩
set_option maxRecDepth 20000 in
theorem m7_13049 : XE7 (13049, 115, 4, 1, 11) := ⟨fun _ => ⟨cm_115, xin_at 979 rfl rfl, im_115, sel_115, ini_11, rfl⟩, fun h => absurd h (by decide), fun h => absurd h (by decide), fun h => absurd h (by decide), fun h => absurd h (by decide), fun h => absurd h (by decide), fun h => absurd h (by decide)⟩
set_option maxRecDepth 20000 in
theorem m7_13053 : XE7 (13053, 118, 2, 1, 11) := ⟨fun _ => ⟨cm_118, xin_at 1003 rfl rfl, im_118, sel_118, ini_11, rfl⟩, fun h => absurd h (by decide), fun h => absurd h (by decide), fun h => absurd h (by decide), fun h => absurd h (by decide), fun h => absurd h (by decide), fun h => absurd h (by decide)⟩
set_option maxRecDepth 20000 in
theorem m7_13057 : XE7 (13057, 119, 2, 1, 11) := ⟨fun _ => ⟨cm_119, xin_at 1019 rfl rfl, im_119, sel_119, ini_11, rfl⟩, fun h => absurd h (by decide), fun h => absurd h (by decide), fun h => absurd h (by decide), fun h => absurd h (by decide), fun h => absurd h (by decide), fun h => absurd h (by decide)⟩
set_option maxRecDepth 20000 in
theorem m7_13060 : XE7 (13060, 94, 0, 0, 91) := ⟨fun h => absurd h (by decide), fun h => absurd h (by decide), fun _ => ⟨cm_94, fun _ => xin_at 74 rfl rfl, im_94, ini_11, rfl, rfl⟩, fun h => absurd h (by decide), fun h => absurd h (by decide), fun h => absurd h (by decide), fun h => absurd h (by decide)⟩
set_option maxRecDepth 20000 in
theorem m7_13063 : XE7 (13063, 120, 0, 0, 91) := ⟨fun h => absurd h (by decide), fun h => absurd h (by decide), fun _ => ⟨cm_120, fun _ => xin_at 1034 rfl rfl, im_120, ini_12, rfl, rfl⟩, fun h => absurd h (by decide), fun h => absurd h (by decide), fun h => absurd h (by decide), fun h => absurd h (by decide)⟩
set_option maxRecDepth 20000 in
theorem m7_13064 : XE7 (13064, 95, 3, 1, 11) := ⟨fun _ => ⟨cm_95, xin_at 476 rfl rfl, im_95, sel_95, ini_11, rfl⟩, fun h => absurd h (by decide), fun h => absurd h (by decide), fun h => absurd h (by decide), fun h => absurd h (by decide), fun h => absurd h (by decide), fun h => absurd h (by decide)⟩
set_option maxRecDepth 20000 in
theorem m7_13068 : XE7 (13068, 133, 3, 1, 12) := ⟨fun _ => ⟨cm_133, xin_at 1178 rfl rfl, im_133, sel_133, ini_12, rfl⟩, fun h => absurd h (by decide), fun h => absurd h (by decide), fun h => absurd h (by decide), fun h => absurd h (by decide), fun h => absurd h (by decide), fun h => absurd h (by decide)⟩
set_option maxRecDepth 20000 in
theorem m7_13069 : XE7 (13069, 96, 1, 1, 11) := ⟨fun _ => ⟨cm_96, xin_at 552 rfl rfl, im_96, sel_96, ini_11, rfl⟩, fun h => absurd h (by decide), fun h => absurd h (by decide), fun h => absurd h (by decide), fun h => absurd h (by decide), fun h => absurd h (by decide), fun h => absurd h (by decide)⟩
set_option maxRecDepth 20000 in
theorem m7_13072 : XE7 (13072, 137, 1, 1, 12) := ⟨fun _ => ⟨cm_137, xin_at 1242 rfl rfl, im_137, sel_137, ini_12, rfl⟩, fun h => absurd h (by decide), fun h => absurd h (by decide), fun h => absurd h (by decide), fun h => absurd h (by decide), fun h => absurd h (by decide), fun h => absurd h (by decide)⟩
set_option maxRecDepth 20000 in
theorem m7_13073 : XE7 (13073, 97, 1, 1, 11) := ⟨fun _ => ⟨cm_97, xin_at 596 rfl rfl, im_97, sel_97, ini_11, rfl⟩, fun h => absurd h (by decide), fun h => absurd h (by decide), fun h => absurd h (by decide), fun h => absurd h (by decide), fun h => absurd h (by decide), fun h => absurd h (by decide)⟩
set_option maxRecDepth 20000 in
theorem m7_13076 : XE7 (13076, 138, 1, 1, 12) := ⟨fun _ => ⟨cm_138, xin_at 1262 rfl rfl, im_138, sel_138, ini_12, rfl⟩, fun h => absurd h (by decide), fun h => absurd h (by decide), fun h => absurd h (by decide), fun h => absurd h (by decide), fun h => absurd h (by decide), fun h => absurd h (by decide)⟩
set_option maxRecDepth 20000 in
theorem m7_13077 : XE7 (13077, 98, 2, 1, 11) := ⟨fun _ => ⟨cm_98, xin_at 608 rfl rfl, im_98, sel_98, ini_11, rfl⟩, fun h => absurd h (by decide), fun h => absurd h (by decide), fun h => absurd h (by decide), fun h => absurd h (by decide), fun h => absurd h (by decide), fun h => absurd h (by decide)⟩
set_option maxRecDepth 20000 in
theorem m7_13080 : XE7 (13080, 139, 2, 1, 12) := ⟨fun _ => ⟨cm_139, xin_at 1266 rfl rfl, im_139, sel_139, ini_12, rfl⟩, fun h => absurd h (by decide), fun h => absurd h (by decide), fun h => absurd h (by decide), fun h => absurd h (by decide), fun h => absurd h (by decide), fun h => absurd h (by decide)⟩
set_option maxRecDepth 20000 in
theorem m7_13081 : XE7 (13081, 180, 4, 1, 96) := ⟨fun h => absurd h (by decide), fun h => absurd h (by decide), fun h => absurd h (by decide), fun h => absurd h (by decide), fun h => absurd h (by decide), fun h => absurd h (by decide), fun _ => rfl⟩
set_option maxRecDepth 20000 in
theorem m7_13086 : XE7 (13086, 140, 2, 1, 12) := ⟨fun _ => ⟨cm_140, xin_at 1271 rfl rfl, im_140, sel_140, ini_12, rfl⟩, fun h => absurd h (by decide), fun h => absurd h (by decide), fun h => absurd h (by decide), fun h => absurd h (by decide), fun h => absurd h (by decide), fun h => absurd h (by decide)⟩
set_option maxRecDepth 20000 in
theorem m7_13087 : XE7 (13087, 121, 0, 1, 12) := ⟨fun _ => ⟨cm_121, xin_at 1174 rfl rfl, im_121, sel_121, ini_12, rfl⟩, fun h => absurd h (by decide), fun h => absurd h (by decide), fun h => absurd h (by decide), fun h => absurd h (by decide), fun h => absurd h (by decide), fun h => absurd h (by decide)⟩
set_option maxRecDepth 20000 in
theorem m7_13091 : XE7 (13091, 181, 4, 1, 96) := ⟨fun h => absurd h (by decide), fun h => absurd h (by decide), fun h => absurd h (by decide), fun h => absurd h (by decide), fun h => absurd h (by decide), fun h => absurd h (by decide), fun _ => rfl⟩
set_option maxRecDepth 20000 in
theorem m7_13093 : XE7 (13093, 141, 2, 1, 12) := ⟨fun _ => ⟨cm_141, xin_at 1275 rfl rfl, im_141, sel_141, ini_12, rfl⟩, fun h => absurd h (by decide), fun h => absurd h (by decide), fun h => absurd h (by decide), fun h => absurd h (by decide), fun h => absurd h (by decide), fun h => absurd h (by decide)⟩
set_option maxRecDepth 20000 in
theorem m7_13094 : XE7 (13094, 182, 4, 1, 96) := ⟨fun h => absurd h (by decide), fun h => absurd h (by decide), fun h => absurd h (by decide), fun h => absurd h (by decide), fun h => absurd h (by decide), fun h => absurd h (by decide), fun _ => rfl⟩
set_option maxRecDepth 20000 in
theorem m7_13096 : XE7 (13096, 142, 2, 1, 12) := ⟨fun _ => ⟨cm_142, xin_at 1279 rfl rfl, im_142, sel_142, ini_12, rfl⟩, fun h => absurd h (by decide), fun h => absurd h (by decide), fun h => absurd h (by decide), fun h => absurd h (by decide), fun h => absurd h (by decide), fun h => absurd h (by decide)⟩
set_option maxRecDepth 20000 in
theorem m7_13097 : XE7 (13097, 183, 3, 1, 96) := ⟨fun h => absurd h (by decide), fun h => absurd h (by decide), fun h => absurd h (by decide), fun h => absurd h (by decide), fun h => absurd h (by decide), fun h => absurd h (by decide), fun _ => rfl⟩
set_option maxRecDepth 20000 in
theorem m7_13100 : XE7 (13100, 143, 1, 1, 12) := ⟨fun _ => ⟨cm_143, xin_at 1284 rfl rfl, im_143, sel_143, ini_12, rfl⟩, fun h => absurd h (by decide), fun h => absurd h (by decide), fun h => absurd h (by decide), fun h => absurd h (by decide), fun h => absurd h (by decide), fun h => absurd h (by decide)⟩
set_option maxRecDepth 20000 in
theorem m7_13101 : XE7 (13101, 103, 1, 1, 11) := ⟨fun _ => ⟨cm_103, xin_at 613 rfl rfl, im_103, sel_103, ini_11, rfl⟩, fun h => absurd h (by decide), fun h => absurd h (by decide), fun h => absurd h (by decide), fun h => absurd h (by decide), fun h => absurd h (by decide), fun h => absurd h (by decide)⟩
set_option maxRecDepth 20000 in
theorem m7_13104 : XE7 (13104, 147, 1, 1, 12) := ⟨fun _ => ⟨cm_147, xin_at 1289 rfl rfl, im_147, sel_147, ini_12, rfl⟩, fun h => absurd h (by decide), fun h => absurd h (by decide), fun h => absurd h (by decide), fun h => absurd h (by decide), fun h => absurd h (by decide), fun h => absurd h (by decide)⟩
set_option maxRecDepth 20000 in
theorem m7_13105 : XE7 (13105, 184, 5, 1, 96) := ⟨fun h => absurd h (by decide), fun h => absurd h (by decide), fun h => absurd h (by decide), fun h => absurd h (by decide), fun h => absurd h (by decide), fun h => absurd h (by decide), fun _ => rfl⟩
set_option maxRecDepth 20000 in
theorem m7_13108 : XE7 (13108, 148, 3, 1, 12) := ⟨fun _ => ⟨cm_148, xin_at 1297 rfl rfl, im_148, sel_148, ini_12, rfl⟩, fun h => absurd h (by decide), fun h => absurd h (by decide), fun h => absurd h (by decide), fun h => absurd h (by decide), fun h => absurd h (by decide), fun h => absurd h (by decide)⟩
set_option maxRecDepth 20000 in
theorem m7_13109 : XE7 (13109, 185, 4, 1, 96) := ⟨fun h => absurd h (by decide), fun h => absurd h (by decide), fun h => absurd h (by decide), fun h => absurd h (by decide), fun h => absurd h (by decide), fun h => absurd h (by decide), fun _ => rfl⟩
set_option maxRecDepth 20000 in
theorem m7_13111 : XE7 (13111, 149, 2, 1, 12) := ⟨fun _ => ⟨cm_149, xin_at 1310 rfl rfl, im_149, sel_149, ini_12, rfl⟩, fun h => absurd h (by decide), fun h => absurd h (by decide), fun h => absurd h (by decide), fun h => absurd h (by decide), fun h => absurd h (by decide), fun h => absurd h (by decide)⟩
set_option maxRecDepth 20000 in
theorem m7_13112 : XE7 (13112, 186, 4, 1, 96) := ⟨fun h => absurd h (by decide), fun h => absurd h (by decide), fun h => absurd h (by decide), fun h => absurd h (by decide), fun h => absurd h (by decide), fun h => absurd h (by decide), fun _ => rfl⟩
set_option maxRecDepth 20000 in
theorem m7_13114 : XE7 (13114, 154, 2, 1, 12) := ⟨fun _ => ⟨cm_154, xin_at 1314 rfl rfl, im_154, sel_154, ini_12, rfl⟩, fun h => absurd h (by decide), fun h => absurd h (by decide), fun h => absurd h (by decide), fun h => absurd h (by decide), fun h => absurd h (by decide), fun h => absurd h (by decide)⟩
set_option maxRecDepth 20000 in
theorem m7_13115 : XE7 (13115, 187, 4, 1, 96) := ⟨fun h => absurd h (by decide), fun h => absurd h (by decide), fun h => absurd h (by decide), fun h => absurd h (by decide), fun h => absurd h (by decide), fun h => absurd h (by decide), fun _ => rfl⟩
set_option maxRecDepth 20000 in
theorem m7_13117 : XE7 (13117, 155, 2, 1, 12) := ⟨fun _ => ⟨cm_155, xin_at 1334 rfl rfl, im_155, sel_155, ini_12, rfl⟩, fun h => absurd h (by decide), fun h => absurd h (by decide), fun h => absurd h (by decide), fun h => absurd h (by decide), fun h => absurd h (by decide), fun h => absurd h (by decide)⟩
set_option maxRecDepth 20000 in
theorem m7_13118 : XE7 (13118, 188, 4, 1, 96) := ⟨fun h => absurd h (by decide), fun h => absurd h (by decide), fun h => absurd h (by decide), fun h => absurd h (by decide), fun h => absurd h (by decide), fun h => absurd h (by decide), fun _ => rfl⟩
set_option maxRecDepth 20000 in
theorem m7_13120 : XE7 (13120, 156, 2, 1, 12) := ⟨fun _ => ⟨cm_156, xin_at 1338 rfl rfl, im_156, sel_156, ini_12, rfl⟩, fun h => absurd h (by decide), fun h => absurd h (by decide), fun h => absurd h (by decide), fun h => absurd h (by decide), fun h => absurd h (by decide), fun h => absurd h (by decide)⟩
set_option maxRecDepth 20000 in
theorem m7_13121 : XE7 (13121, 109, 2, 1, 11) := ⟨fun _ => ⟨cm_109, xin_at 629 rfl rfl, im_109, sel_109, ini_11, rfl⟩, fun h => absurd h (by decide), fun h => absurd h (by decide), fun h => absurd h (by decide), fun h => absurd h (by decide), fun h => absurd h (by decide), fun h => absurd h (by decide)⟩
set_option maxRecDepth 20000 in
theorem m7_13124 : XE7 (13124, 157, 2, 1, 12) := ⟨fun _ => ⟨cm_157, xin_at 1342 rfl rfl, im_157, sel_157, ini_12, rfl⟩, fun h => absurd h (by decide), fun h => absurd h (by decide), fun h => absurd h (by decide), fun h => absurd h (by decide), fun h => absurd h (by decide), fun h => absurd h (by decide)⟩
set_option maxRecDepth 20000 in
theorem m7_13125 : XE7 (13125, 189, 4, 1, 96) := ⟨fun h => absurd h (by decide), fun h => absurd h (by decide), fun h => absurd h (by decide), fun h => absurd h (by decide), fun h => absurd h (by decide), fun h => absurd h (by decide), fun _ => rfl⟩
set_option maxRecDepth 20000 in
theorem m7_13127 : XE7 (13127, 158, 2, 1, 12) := ⟨fun _ => ⟨cm_158, xin_at 1346 rfl rfl, im_158, sel_158, ini_12, rfl⟩, fun h => absurd h (by decide), fun h => absurd h (by decide), fun h => absurd h (by decide), fun h => absurd h (by decide), fun h => absurd h (by decide), fun h => absurd h (by decide)⟩
set_option maxRecDepth 20000 in
theorem m7_13128 : XE7 (13128, 190, 3, 1, 96) := ⟨fun h => absurd h (by decide), fun h => absurd h (by decide), fun h => absurd h (by decide), fun h => absurd h (by decide), fun h => absurd h (by decide), fun h => absurd h (by decide), fun _ => rfl⟩
set_option maxRecDepth 20000 in
theorem m7_13130 : XE7 (13130, 164, 1, 1, 12) := ⟨fun _ => ⟨cm_164, xin_at 1352 rfl rfl, im_164, sel_164, ini_12, rfl⟩, fun h => absurd h (by decide), fun h => absurd h (by decide), fun h => absurd h (by decide), fun h => absurd h (by decide), fun h => absurd h (by decide), fun h => absurd h (by decide)⟩
set_option maxRecDepth 20000 in
theorem m7_13131 : XE7 (13131, 112, 2, 1, 11) := ⟨fun _ => ⟨cm_112, xin_at 651 rfl rfl, im_112, sel_112, ini_11, rfl⟩, fun h => absurd h (by decide), fun h => absurd h (by decide), fun h => absurd h (by decide), fun h => absurd h (by decide), fun h => absurd h (by decide), fun h => absurd h (by decide)⟩
set_option maxRecDepth 20000 in
theorem m7_13134 : XE7 (13134, 165, 2, 1, 12) := ⟨fun _ => ⟨cm_165, xin_at 1362 rfl rfl, im_165, sel_165, ini_12, rfl⟩, fun h => absurd h (by decide), fun h => absurd h (by decide), fun h => absurd h (by decide), fun h => absurd h (by decide), fun h => absurd h (by decide), fun h => absurd h (by decide)⟩
set_option maxRecDepth 20000 in
theorem m7_13135 : XE7 (13135, 113, 1, 1, 11) := ⟨fun _ => ⟨cm_113, xin_at 655 rfl rfl, im_113, sel_113, ini_11, rfl⟩, fun h => absurd h (by decide), fun h => absurd h (by decide), fun h => absurd h (by decide), fun h => absurd h (by decide), fun h => absurd h (by decide), fun h => absurd h (by decide)⟩
set_option maxRecDepth 20000 in
theorem m7_13138 : XE7 (13138, 166, 1, 1, 12) := ⟨fun _ => ⟨cm_166, xin_at 1366 rfl rfl, im_166, sel_166, ini_12, rfl⟩, fun h => absurd h (by decide), fun h => absurd h (by decide), fun h => absurd h (by decide), fun h => absurd h (by decide), fun h => absurd h (by decide), fun h => absurd h (by decide)⟩
set_option maxRecDepth 20000 in
theorem m7_13139 : XE7 (13139, 114, 2, 2, 11) := ⟨fun _ => ⟨cm_114, xin_at 660 rfl rfl, im_114, sel_114, ini_11, rfl⟩, fun h => absurd h (by decide), fun h => absurd h (by decide), fun h => absurd h (by decide), fun h => absurd h (by decide), fun h => absurd h (by decide), fun h => absurd h (by decide)⟩
set_option maxRecDepth 20000 in
theorem m7_13143 : XE7 (13143, 167, 2, 2, 12) := ⟨fun _ => ⟨cm_167, xin_at 1370 rfl rfl, im_167, sel_167, ini_12, rfl⟩, fun h => absurd h (by decide), fun h => absurd h (by decide), fun h => absurd h (by decide), fun h => absurd h (by decide), fun h => absurd h (by decide), fun h => absurd h (by decide)⟩
set_option maxRecDepth 20000 in
theorem m7_13144 : XE7 (13144, 191, 6, 1, 96) := ⟨fun h => absurd h (by decide), fun h => absurd h (by decide), fun h => absurd h (by decide), fun h => absurd h (by decide), fun h => absurd h (by decide), fun h => absurd h (by decide), fun _ => rfl⟩
set_option maxRecDepth 20000 in
theorem m7_13147 : XE7 (13147, 173, 4, 1, 12) := ⟨fun _ => ⟨cm_173, xin_at 1374 rfl rfl, im_173, sel_173, ini_12, rfl⟩, fun h => absurd h (by decide), fun h => absurd h (by decide), fun h => absurd h (by decide), fun h => absurd h (by decide), fun h => absurd h (by decide), fun h => absurd h (by decide)⟩
set_option maxRecDepth 20000 in
theorem m7_13148 : XE7 (13148, 116, 2, 1, 11) := ⟨fun _ => ⟨cm_116, xin_at 665 rfl rfl, im_116, sel_116, ini_11, rfl⟩, fun h => absurd h (by decide), fun h => absurd h (by decide), fun h => absurd h (by decide), fun h => absurd h (by decide), fun h => absurd h (by decide), fun h => absurd h (by decide)⟩
set_option maxRecDepth 20000 in
theorem m7_13151 : XE7 (13151, 176, 2, 1, 12) := ⟨fun _ => ⟨cm_176, xin_at 1395 rfl rfl, im_176, sel_176, ini_12, rfl⟩, fun h => absurd h (by decide), fun h => absurd h (by decide), fun h => absurd h (by decide), fun h => absurd h (by decide), fun h => absurd h (by decide), fun h => absurd h (by decide)⟩
set_option maxRecDepth 20000 in
theorem m7_13152 : XE7 (13152, 117, 2, 1, 11) := ⟨fun _ => ⟨cm_117, xin_at 700 rfl rfl, im_117, sel_117, ini_11, rfl⟩, fun h => absurd h (by decide), fun h => absurd h (by decide), fun h => absurd h (by decide), fun h => absurd h (by decide), fun h => absurd h (by decide), fun h => absurd h (by decide)⟩
set_option maxRecDepth 20000 in
theorem m7_13155 : XE7 (13155, 177, 2, 1, 12) := ⟨fun _ => ⟨cm_177, xin_at 1403 rfl rfl, im_177, sel_177, ini_12, rfl⟩, fun h => absurd h (by decide), fun h => absurd h (by decide), fun h => absurd h (by decide), fun h => absurd h (by decide), fun h => absurd h (by decide), fun h => absurd h (by decide)⟩
set_option maxRecDepth 20000 in
theorem m7_13156 : XE7 (13156, 192, 4, 1, 96) := ⟨fun h => absurd h (by decide), fun h => absurd h (by decide), fun h => absurd h (by decide), fun h => absurd h (by decide), fun h => absurd h (by decide), fun h => absurd h (by decide), fun _ => rfl⟩
set_option maxRecDepth 20000 in
theorem m7_13159 : XE7 (13159, 178, 2, 1, 12) := ⟨fun _ => ⟨cm_178, xin_at 1407 rfl rfl, im_178, sel_178, ini_12, rfl⟩, fun h => absurd h (by decide), fun h => absurd h (by decide), fun h => absurd h (by decide), fun h => absurd h (by decide), fun h => absurd h (by decide), fun h => absurd h (by decide)⟩
set_option maxRecDepth 20000 in
theorem m7_13160 : XE7 (13160, 193, 4, 1, 96) := ⟨fun h => absurd h (by decide), fun h => absurd h (by decide), fun h => absurd h (by decide), fun h => absurd h (by decide), fun h => absurd h (by decide), fun h => absurd h (by decide), fun _ => rfl⟩
set_option maxRecDepth 20000 in
theorem m7_13162 : XE7 (13162, 179, 2, 1, 12) := ⟨fun _ => ⟨cm_179, xin_at 1411 rfl rfl, im_179, sel_179, ini_12, rfl⟩, fun h => absurd h (by decide), fun h => absurd h (by decide), fun h => absurd h (by decide), fun h => absurd h (by decide), fun h => absurd h (by decide), fun h => absurd h (by decide)⟩
set_option maxRecDepth 100000 in
theorem xmd_all : ∀ e ∈ xmdL, XE7 e := List.forall_mem_cons.mpr ⟨m7_3, List.forall_mem_cons.mpr ⟨m7_19, List.forall_mem_cons.mpr ⟨m7_23, List.forall_mem_cons.mpr ⟨m7_27, List.forall_mem_cons.mpr ⟨m7_34, List.forall_mem_cons.mpr ⟨m7_43, List.forall_mem_cons.mpr ⟨m7_49, List.forall_mem_cons.mpr ⟨m7_85, List.forall_mem_cons.mpr ⟨m7_89, List.forall_mem_cons.mpr ⟨m7_92, List.forall_mem_cons.mpr ⟨m7_93, List.forall_mem_cons.mpr ⟨m7_97, List.forall_mem_cons.mpr ⟨m7_101, List.forall_mem_cons.mpr ⟨m7_1003, List.forall_mem_cons.mpr ⟨m7_1041, List.forall_mem_cons.mpr ⟨m7_1050, List.forall_mem_cons.mpr ⟨m7_1057, List.forall_mem_cons.mpr ⟨m7_1061, List.forall_mem_cons.mpr ⟨m7_1082, List.forall_mem_cons.mpr ⟨m7_2003, List.forall_mem_cons.mpr ⟨m7_2024, List.forall_mem_cons.mpr ⟨m7_2030, List.forall_mem_cons.mpr ⟨m7_3003, List.forall_mem_cons.mpr ⟨m7_3025, List.forall_mem_cons.mpr ⟨m7_3029, List.forall_mem_cons.mpr ⟨m7_3038, List.forall_mem_cons.mpr ⟨m7_3042, List.forall_mem_cons.mpr ⟨m7_3052, List.forall_mem_cons.mpr ⟨m7_3058, List.forall_mem_cons.mpr ⟨m7_3062, List.forall_mem_cons.mpr ⟨m7_3071, List.forall_mem_cons.mpr ⟨m7_4003, List.forall_mem_cons.mpr ⟨m7_4039, List.forall_mem_cons.mpr ⟨m7_5003, List.forall_mem_cons.mpr ⟨m7_5025, List.forall_mem_cons.mpr ⟨m7_5030, List.forall_mem_cons.mpr ⟨m7_5041, List.forall_mem_cons.mpr ⟨m7_5045, List.forall_mem_cons.mpr ⟨m7_5053, List.forall_mem_cons.mpr ⟨m7_5054, List.forall_mem_cons.mpr ⟨m7_5067, List.forall_mem_cons.mpr ⟨m7_5077, List.forall_mem_cons.mpr ⟨m7_5087, List.forall_mem_cons.mpr ⟨m7_5091, List.forall_mem_cons.mpr ⟨m7_5095, List.forall_mem_cons.mpr ⟨m7_5099, List.forall_mem_cons.mpr ⟨m7_5103, List.forall_mem_cons.mpr ⟨m7_5113, List.forall_mem_cons.mpr ⟨m7_5116, List.forall_mem_cons.mpr ⟨m7_6003, List.forall_mem_cons.mpr ⟨m7_6015, List.forall_mem_cons.mpr ⟨m7_6021, List.forall_mem_cons.mpr ⟨m7_6032, List.forall_mem_cons.mpr ⟨m7_7003, List.forall_mem_cons.mpr ⟨m7_7031, List.forall_mem_cons.mpr ⟨m7_8003, List.forall_mem_cons.mpr ⟨m7_8052, List.forall_mem_cons.mpr ⟨m7_8058, List.forall_mem_cons.mpr ⟨m7_8061, List.forall_mem_cons.mpr ⟨m7_9003, List.forall_mem_cons.mpr ⟨m7_9027, List.forall_mem_cons.mpr ⟨m7_9040, List.forall_mem_cons.mpr ⟨m7_9048, List.forall_mem_cons.mpr ⟨m7_9051, List.forall_mem_cons.mpr ⟨m7_9054, List.forall_mem_cons.mpr ⟨m7_9058, List.forall_mem_cons.mpr ⟨m7_9064, List.forall_mem_cons.mpr ⟨m7_9074, List.forall_mem_cons.mpr ⟨m7_9078, List.forall_mem_cons.mpr ⟨m7_9081, List.forall_mem_cons.mpr ⟨m7_9092, List.forall_mem_cons.mpr ⟨m7_9098, List.forall_mem_cons.mpr ⟨m7_9102, List.forall_mem_cons.mpr ⟨m7_9105, List.forall_mem_cons.mpr ⟨m7_9109, List.forall_mem_cons.mpr ⟨m7_9112, List.forall_mem_cons.mpr ⟨m7_9115, List.forall_mem_cons.mpr ⟨m7_9118, List.forall_mem_cons.mpr ⟨m7_10001, List.forall_mem_cons.mpr ⟨m7_11001, List.forall_mem_cons.mpr ⟨m7_11009, List.forall_mem_cons.mpr ⟨m7_11018, List.forall_mem_cons.mpr ⟨m7_11025, List.forall_mem_cons.mpr ⟨m7_11034, List.forall_mem_cons.mpr ⟨m7_11041, List.forall_mem_cons.mpr ⟨m7_11046, List.forall_mem_cons.mpr ⟨m7_11050, List.forall_mem_cons.mpr ⟨m7_11054, List.forall_mem_cons.mpr ⟨m7_11058, List.forall_mem_cons.mpr ⟨m7_11062, List.forall_mem_cons.mpr ⟨m7_11072, List.forall_mem_cons.mpr ⟨m7_11082, List.forall_mem_cons.mpr ⟨m7_11090, List.forall_mem_cons.mpr ⟨m7_11094, List.forall_mem_cons.mpr ⟨m7_11098, List.forall_mem_cons.mpr ⟨m7_11106, List.forall_mem_cons.mpr ⟨m7_11110, List.forall_mem_cons.mpr ⟨m7_11113, List.forall_mem_cons.mpr ⟨m7_11125, List.forall_mem_cons.mpr ⟨m7_11136, List.forall_mem_cons.mpr ⟨m7_11139, List.forall_mem_cons.mpr ⟨m7_11144, List.forall_mem_cons.mpr ⟨m7_11151, List.forall_mem_cons.mpr ⟨m7_11172, List.forall_mem_cons.mpr ⟨m7_11176, List.forall_mem_cons.mpr ⟨m7_11179, List.forall_mem_cons.mpr ⟨m7_11198, List.forall_mem_cons.mpr ⟨m7_11202, List.forall_mem_cons.mpr ⟨m7_11206, List.forall_mem_cons.mpr ⟨m7_11210, List.forall_mem_cons.mpr ⟨m7_11214, List.forall_mem_cons.mpr ⟨m7_11223, List.forall_mem_cons.mpr ⟨m7_11229, List.forall_mem_cons.mpr ⟨m7_11233, List.forall_mem_cons.mpr ⟨m7_11243, List.forall_mem_cons.mpr ⟨m7_11267, List.forall_mem_cons.mpr ⟨m7_11280, List.forall_mem_cons.mpr ⟨m7_11284, List.forall_mem_cons.mpr ⟨m7_11288, List.forall_mem_cons.mpr ⟨m7_11292, List.forall_mem_cons.mpr ⟨m7_11303, List.forall_mem_cons.mpr ⟨m7_11309, List.forall_mem_cons.mpr ⟨m7_11313, List.forall_mem_cons.mpr ⟨m7_12001, List.forall_mem_cons.mpr ⟨m7_12109, List.forall_mem_cons.mpr ⟨m7_12116, List.forall_mem_cons.mpr ⟨m7_12126, List.forall_mem_cons.mpr ⟨m7_12130, List.forall_mem_cons.mpr ⟨m7_12137, List.forall_mem_cons.mpr ⟨m7_12141, List.forall_mem_cons.mpr ⟨m7_12144, List.forall_mem_cons.mpr ⟨m7_12147, List.forall_mem_cons.mpr ⟨m7_12150, List.forall_mem_cons.mpr ⟨m7_12153, List.forall_mem_cons.mpr ⟨m7_12157, List.forall_mem_cons.mpr ⟨m7_12160, List.forall_mem_cons.mpr ⟨m7_12163, List.forall_mem_cons.mpr ⟨m7_12167, List.forall_mem_cons.mpr ⟨m7_12171, List.forall_mem_cons.mpr ⟨m7_12175, List.forall_mem_cons.mpr ⟨m7_12178, List.forall_mem_cons.mpr ⟨m7_12194, List.forall_mem_cons.mpr ⟨m7_12197, List.forall_mem_cons.mpr ⟨m7_12200, List.forall_mem_cons.mpr ⟨m7_12214, List.forall_mem_cons.mpr ⟨m7_12217, List.forall_mem_cons.mpr ⟨m7_12220, List.forall_mem_cons.mpr ⟨m7_12224, List.forall_mem_cons.mpr ⟨m7_12227, List.forall_mem_cons.mpr ⟨m7_12234, List.forall_mem_cons.mpr ⟨m7_12239, List.forall_mem_cons.mpr ⟨m7_12246, List.forall_mem_cons.mpr ⟨m7_12255, List.forall_mem_cons.mpr ⟨m7_12258, List.forall_mem_cons.mpr ⟨m7_12263, List.forall_mem_cons.mpr ⟨m7_12266, List.forall_mem_cons.mpr ⟨m7_12273, List.forall_mem_cons.mpr ⟨m7_13007, List.forall_mem_cons.mpr ⟨m7_13015, List.forall_mem_cons.mpr ⟨m7_13018, List.forall_mem_cons.mpr ⟨m7_13021, List.forall_mem_cons.mpr ⟨m7_13025, List.forall_mem_cons.mpr ⟨m7_13031, List.forall_mem_cons.mpr ⟨m7_13034, List.forall_mem_cons.mpr ⟨m7_13037, List.forall_mem_cons.mpr ⟨m7_13040, List.forall_mem_cons.mpr ⟨m7_13043, List.forall_mem_cons.mpr ⟨m7_13046, List.forall_mem_cons.mpr ⟨m7_13049, List.forall_mem_cons.mpr ⟨m7_13053, List.forall_mem_cons.mpr ⟨m7_13057, List.forall_mem_cons.mpr ⟨m7_13060, List.forall_mem_cons.mpr ⟨m7_13063, List.forall_mem_cons.mpr ⟨m7_13064, List.forall_mem_cons.mpr ⟨m7_13068, List.forall_mem_cons.mpr ⟨m7_13069, List.forall_mem_cons.mpr ⟨m7_13072, List.forall_mem_cons.mpr ⟨m7_13073, List.forall_mem_cons.mpr ⟨m7_13076, List.forall_mem_cons.mpr ⟨m7_13077, List.forall_mem_cons.mpr ⟨m7_13080, List.forall_mem_cons.mpr ⟨m7_13081, List.forall_mem_cons.mpr ⟨m7_13086, List.forall_mem_cons.mpr ⟨m7_13087, List.forall_mem_cons.mpr ⟨m7_13091, List.forall_mem_cons.mpr ⟨m7_13093, List.forall_mem_cons.mpr ⟨m7_13094, List.forall_mem_cons.mpr ⟨m7_13096, List.forall_mem_cons.mpr ⟨m7_13097, List.forall_mem_cons.mpr ⟨m7_13100, List.forall_mem_cons.mpr ⟨m7_13101, List.forall_mem_cons.mpr ⟨m7_13104, List.forall_mem_cons.mpr ⟨m7_13105, List.forall_mem_cons.mpr ⟨m7_13108, List.forall_mem_cons.mpr ⟨m7_13109, List.forall_mem_cons.mpr ⟨m7_13111, List.forall_mem_cons.mpr ⟨m7_13112, List.forall_mem_cons.mpr ⟨m7_13114, List.forall_mem_cons.mpr ⟨m7_13115, List.forall_mem_cons.mpr ⟨m7_13117, List.forall_mem_cons.mpr ⟨m7_13118, List.forall_mem_cons.mpr ⟨m7_13120, List.forall_mem_cons.mpr ⟨m7_13121, List.forall_mem_cons.mpr ⟨m7_13124, List.forall_mem_cons.mpr ⟨m7_13125, List.forall_mem_cons.mpr ⟨m7_13127, List.forall_mem_cons.mpr ⟨m7_13128, List.forall_mem_cons.mpr ⟨m7_13130, List.forall_mem_cons.mpr ⟨m7_13131, List.forall_mem_cons.mpr ⟨m7_13134, List.forall_mem_cons.mpr ⟨m7_13135, List.forall_mem_cons.mpr ⟨m7_13138, List.forall_mem_cons.mpr ⟨m7_13139, List.forall_mem_cons.mpr ⟨m7_13143, List.forall_mem_cons.mpr ⟨m7_13144, List.forall_mem_cons.mpr ⟨m7_13147, List.forall_mem_cons.mpr ⟨m7_13148, List.forall_mem_cons.mpr ⟨m7_13151, List.forall_mem_cons.mpr ⟨m7_13152, List.forall_mem_cons.mpr ⟨m7_13155, List.forall_mem_cons.mpr ⟨m7_13156, List.forall_mem_cons.mpr ⟨m7_13159, List.forall_mem_cons.mpr ⟨m7_13160, List.forall_mem_cons.mpr ⟨m7_13162, fun _ h => absurd h List.not_mem_nil⟩⟩⟩⟩⟩⟩⟩⟩⟩⟩⟩⟩⟩⟩⟩⟩⟩⟩⟩⟩⟩⟩⟩⟩⟩⟩⟩⟩⟩⟩⟩⟩⟩⟩⟩⟩⟩⟩⟩⟩⟩⟩⟩⟩⟩⟩⟩⟩⟩⟩⟩⟩⟩⟩⟩⟩⟩⟩⟩⟩⟩⟩⟩⟩⟩⟩⟩⟩⟩⟩⟩⟩⟩⟩⟩⟩⟩⟩⟩⟩⟩⟩⟩⟩⟩⟩⟩⟩⟩⟩⟩⟩⟩⟩⟩⟩⟩⟩⟩⟩⟩⟩⟩⟩⟩⟩⟩⟩⟩⟩⟩⟩⟩⟩⟩⟩⟩⟩⟩⟩⟩⟩⟩⟩⟩⟩⟩⟩⟩⟩⟩⟩⟩⟩⟩⟩⟩⟩⟩⟩⟩⟩⟩⟩⟩⟩⟩⟩⟩⟩⟩⟩⟩⟩⟩⟩⟩⟩⟩⟩⟩⟩⟩⟩⟩⟩⟩⟩⟩⟩⟩⟩⟩⟩⟩⟩⟩⟩⟩⟩⟩⟩⟩⟩⟩⟩⟩⟩⟩⟩⟩⟩⟩⟩⟩⟩⟩⟩⟩⟩⟩⟩⟩⟩⟩⟩⟩⟩⟩⟩⟩⟩⟩⟩⟩⟩⟩⟩⟩⟩⟩⟩⟩⟩
theorem xs7 : XS7 := by
  intro o x mj n q ci h
  obtain ⟨h1, h2, h3⟩ := xlk_key (l := xmdL) h
  have h4 := xmd_all _ h1
  unfold XE7 at h4
  rw [show ((1000 * o + x, mj, n, q, ci) : Nat × Nat × Nat × Nat × Nat).1 = 1000 * o + x from rfl, h2, h3] at h4
  exact ⟨h4.1, h4.2.1, h4.2.2.1, h4.2.2.2.1, h4.2.2.2.2.1, h4.2.2.2.2.2.1⟩
theorem xs8a : ∀ o x mj n q, xmd o x = some (mj, n, q, 96) → o = 13 := by
  intro o x mj n q h
  obtain ⟨h1, h2, h3⟩ := xlk_key (l := xmdL) h
  have h4 := (xmd_all _ h1).2.2.2.2.2.2 rfl
  rw [show ((1000 * o + x, mj, n, q, 96) : Nat × Nat × Nat × Nat × Nat).1 = 1000 * o + x from rfl, h2] at h4
  exact h4
