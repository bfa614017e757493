theorem lk_169 : Jvm.Cond.methodLink RX4 53 yX4_within ∈ aw_tb := aw_in 169 (by decide +kernel) rfl
theorem lk_172 : Jvm.Cond.methodLink RX4 57 yX4_found ∈ aw_tb := aw_in 172 (by decide +kernel) rfl
theorem lk_176 : Jvm.Cond.constant RX4 235 (-1000001) ∈ aw_tb := aw_in 176 (by decide +kernel) rfl
theorem lk_189 : Jvm.Cond.methodLink RX4 68 yX0_isFull ∈ aw_tb := aw_in 189 (by decide +kernel) rfl
theorem lk_193 : Jvm.Cond.methodLink RX4 72 yX0_addPotter ∈ aw_tb := aw_in 193 (by decide +kernel) rfl
theorem lk_201 : Jvm.Cond.methodLink RX4 76 yX0_has ∈ aw_tb := aw_in 201 (by decide +kernel) rfl
theorem lk_205 : Jvm.Cond.methodLink RX4 80 yX0_tell ∈ aw_tb := aw_in 205 (by decide +kernel) rfl
theorem lk_209 : Jvm.Cond.methodLink RX0 62 yX0_pushes ∈ aw_tb := aw_in 209 (by decide +kernel) rfl
theorem lk_213 : Jvm.Cond.methodLink RX0 75 Lib.Math.max.name ∈ aw_tb := aw_in 213 (by decide +kernel) rfl
theorem lk_216 : Jvm.Cond.methodLink RX0 66 yX0_says ∈ aw_tb := aw_in 216 (by decide +kernel) rfl
theorem lk_228 : Jvm.Cond.fieldLink RX4 84 "TwoWheel" "MOST_OF_TRAIT" "[I" ∈ aw_tb := aw_in 228 (by decide +kernel) rfl
theorem lk_234 : Jvm.Cond.methodLink RX4 90 yX0_hasTwo ∈ aw_tb := aw_in 234 (by decide +kernel) rfl
theorem lk_238 : Jvm.Cond.methodLink RX0 58 yX0_has ∈ aw_tb := aw_in 238 (by decide +kernel) rfl
theorem lk_239 : Jvm.Cond.methodLink RX4 94 yX0_riftOf ∈ aw_tb := aw_in 239 (by decide +kernel) rfl
theorem lk_243 : Jvm.Cond.methodLink RX0 81 yX0_riftPlace ∈ aw_tb := aw_in 243 (by decide +kernel) rfl
theorem lk_246 : Jvm.Cond.methodLink RX4 97 yX0_setRift ∈ aw_tb := aw_in 246 (by decide +kernel) rfl
theorem lk_254 : Jvm.Cond.methodLink RX4 101 yX0_rises ∈ aw_tb := aw_in 254 (by decide +kernel) rfl
theorem lk_258 : Jvm.Cond.methodLink RX0 84 yX0_riftOf ∈ aw_tb := aw_in 258 (by decide +kernel) rfl
theorem lk_259 : Jvm.Cond.methodLink RX4 105 yX0_leans ∈ aw_tb := aw_in 259 (by decide +kernel) rfl
theorem lk_263 : Jvm.Cond.methodLink RX4 108 yX4_wouldFlop ∈ aw_tb := aw_in 263 (by decide +kernel) rfl
theorem lk_266 : Jvm.Cond.methodLink RX4 239 Lib.Math.abs.name ∈ aw_tb := aw_in 266 (by decide +kernel) rfl
theorem lk_273 : Jvm.Cond.constant RX4 114 99999 ∈ aw_tb := aw_in 273 (by decide +kernel) rfl
theorem lk_274 : Jvm.Cond.methodLink RX4 115 yX0_passDays ∈ aw_tb := aw_in 274 (by decide +kernel) rfl
theorem lk_278 : Jvm.Cond.methodLink RX0 98 yX0_hasTwo ∈ aw_tb := aw_in 278 (by decide +kernel) rfl
theorem lk_279 : Jvm.Cond.methodLink RX0 101 yX0_throwPot ∈ aw_tb := aw_in 279 (by decide +kernel) rfl
theorem lk_283 : Jvm.Cond.methodLink RX0 90 yX0_rises ∈ aw_tb := aw_in 283 (by decide +kernel) rfl
theorem lk_284 : Jvm.Cond.methodLink RX0 87 yX0_leans ∈ aw_tb := aw_in 284 (by decide +kernel) rfl
theorem lk_286 : Jvm.Cond.methodLink RX0 112 yX0_flop ∈ aw_tb := aw_in 286 (by decide +kernel) rfl
theorem lk_290 : Jvm.Cond.methodLink RX0 109 Lib.Math.min.name ∈ aw_tb := aw_in 290 (by decide +kernel) rfl
theorem lk_293 : Jvm.Cond.methodLink RX0 116 yX0_stand ∈ aw_tb := aw_in 293 (by decide +kernel) rfl
theorem lk_297 : Jvm.Cond.methodLink RX0 119 yX0_sell ∈ aw_tb := aw_in 297 (by decide +kernel) rfl
theorem lk_301 : Jvm.Cond.methodLink RX0 126 Lib.Math.abs.name ∈ aw_tb := aw_in 301 (by decide +kernel) rfl
theorem lk_302 : Jvm.Cond.constant RX0 108 99999 ∈ aw_tb := aw_in 302 (by decide +kernel) rfl
theorem lk_303 : Jvm.Cond.methodLink RX0 122 yX0_setRift ∈ aw_tb := aw_in 303 (by decide +kernel) rfl
theorem lk_304 : Jvm.Cond.methodLink RX0 105 yX0_ageAll ∈ aw_tb := aw_in 304 (by decide +kernel) rfl
theorem lk_312 : Jvm.Cond.methodLink RX4 128 yX0_sumOf ∈ aw_tb := aw_in 312 (by decide +kernel) rfl
theorem lk_316 : Jvm.Cond.methodLink RX4 131 yX0_widestTwo ∈ aw_tb := aw_in 316 (by decide +kernel) rfl
theorem lk_320 : Jvm.Cond.methodLink RX4 135 yX0_throwsToday ∈ aw_tb := aw_in 320 (by decide +kernel) rfl
theorem lk_328 : Jvm.Cond.methodLink RX4 138 yX0_become ∈ aw_tb := aw_in 328 (by decide +kernel) rfl
theorem lk_332 : Jvm.Cond.methodLink RX0 52 arraycopyName ∈ aw_tb := aw_in 332 (by decide +kernel) rfl
theorem lk_359 : Jvm.Cond.methodLink RX4 145 yX4_dearestTrait ∈ aw_tb := aw_in 359 (by decide +kernel) rfl
theorem lk_375 : Jvm.Cond.methodLink RX4 148 yJ6_bitCount_0f7a4 ∈ aw_tb := aw_in 375 (by decide +kernel) rfl
theorem lk_378 : Jvm.Cond.constant RJ6 265 1431655765 ∈ aw_tb := aw_in 378 (by decide +kernel) rfl
theorem lk_379 : Jvm.Cond.constant RJ6 266 858993459 ∈ aw_tb := aw_in 379 (by decide +kernel) rfl
theorem lk_380 : Jvm.Cond.constant RJ6 267 252645135 ∈ aw_tb := aw_in 380 (by decide +kernel) rfl
theorem lk_381 : Jvm.Cond.methodLink RX4 153 yX4_keepsRound ∈ aw_tb := aw_in 381 (by decide +kernel) rfl
theorem lk_385 : Jvm.Cond.methodLink RX4 236 yX0_reconcileSet ∈ aw_tb := aw_in 385 (by decide +kernel) rfl
theorem lk_393 : Jvm.Cond.methodLink RX4 156 yX2_isMissing ∈ aw_tb := aw_in 393 (by decide +kernel) rfl
theorem lk_397 : Jvm.Cond.methodLink RX4 159 yX4_trialRiftIsTold ∈ aw_tb := aw_in 397 (by decide +kernel) rfl
theorem lk_401 : Jvm.Cond.methodLink RX4 229 yX2_get ∈ aw_tb := aw_in 401 (by decide +kernel) rfl
theorem lk_409 : Jvm.Cond.methodLink RX4 162 yX4_trialHeatIsTold ∈ aw_tb := aw_in 409 (by decide +kernel) rfl
theorem lk_417 : Jvm.Cond.methodLink RX4 165 yX0_drawMarket ∈ aw_tb := aw_in 417 (by decide +kernel) rfl
theorem lk_421 : Jvm.Cond.methodLink RX0 129 yX0_draw ∈ aw_tb := aw_in 421 (by decide +kernel) rfl
theorem lk_425 : Jvm.Cond.constant RX0 133 1103515245 ∈ aw_tb := aw_in 425 (by decide +kernel) rfl
theorem lk_430 : Jvm.Cond.methodLink RX4 168 yX0_claysThatStand ∈ aw_tb := aw_in 430 (by decide +kernel) rfl
theorem lk_434 : Jvm.Cond.methodLink RX4 171 yX4_commonDivisor ∈ aw_tb := aw_in 434 (by decide +kernel) rfl
theorem lk_437 : Jvm.Cond.methodLink RX4 245 Lib.Math.max.name ∈ aw_tb := aw_in 437 (by decide +kernel) rfl
theorem lk_438 : Jvm.Cond.methodLink RX4 174 yX4_power ∈ aw_tb := aw_in 438 (by decide +kernel) rfl
theorem lk_449 : Jvm.Cond.methodLink RX4 184 yX3_append ∈ aw_tb := aw_in 449 (by decide +kernel) rfl
theorem lk_461 : Jvm.Cond.methodLink RX4 187 yX1_splitTape ∈ aw_tb := aw_in 461 (by decide +kernel) rfl
theorem lk_465 : Jvm.Cond.methodLink RX1 38 yX1_goesOnAt ∈ aw_tb := aw_in 465 (by decide +kernel) rfl
theorem lk_469 : Jvm.Cond.methodLink RX1 111 yX1_isLetter ∈ aw_tb := aw_in 469 (by decide +kernel) rfl
theorem lk_473 : Jvm.Cond.methodLink RX1 114 yX1_isDigit ∈ aw_tb := aw_in 473 (by decide +kernel) rfl
theorem lk_477 : Jvm.Cond.methodLink RX1 42 yX1_tokenAt ∈ aw_tb := aw_in 477 (by decide +kernel) rfl
theorem lk_481 : Jvm.Cond.methodLink RX1 117 yX1_numberAt ∈ aw_tb := aw_in 481 (by decide +kernel) rfl
theorem lk_485 : Jvm.Cond.methodLink RX1 123 Lib.Math.min.name ∈ aw_tb := aw_in 485 (by decide +kernel) rfl
theorem lk_486 : Jvm.Cond.methodLink RX1 120 yX1_wordAt ∈ aw_tb := aw_in 486 (by decide +kernel) rfl
theorem lk_490 : Jvm.Cond.methodLink RX1 128 yX1_nameOf ∈ aw_tb := aw_in 490 (by decide +kernel) rfl
theorem lk_506 : Jvm.Cond.methodLink RX1 132 yX1_isWordAt ∈ aw_tb := aw_in 506 (by decide +kernel) rfl
theorem lk_510 : Jvm.Cond.methodLink RX1 136 yJ0_length_8abf5 ∈ aw_tb := aw_in 510 (by decide +kernel) rfl
theorem lk_514 : Jvm.Cond.methodLink RJ0 335 yJ0_coder_7d493 ∈ aw_tb := aw_in 514 (by decide +kernel) rfl
theorem lk_518 : Jvm.Cond.fieldLink RJ0 38 "java/lang/String" "COMPACT_STRINGS" "Z" ∈ aw_tb := aw_in 518 (by decide +kernel) rfl
theorem lk_520 : Jvm.Cond.methodLink RX1 141 yJ0_charAt_5068e ∈ aw_tb := aw_in 520 (by decide +kernel) rfl
theorem lk_524 : Jvm.Cond.methodLink RJ0 492 yJ0_isLatin1_aae02 ∈ aw_tb := aw_in 524 (by decide +kernel) rfl
theorem lk_528 : Jvm.Cond.methodLink RJ0 495 yJ1_charAt_3b067 ∈ aw_tb := aw_in 528 (by decide +kernel) rfl
theorem lk_531 : Jvm.Cond.methodLink RJ1 9 yJ0_checkIndex_df160 ∈ aw_tb := aw_in 531 (by decide +kernel) rfl
theorem lk_534 : Jvm.Cond.fieldLink RJ0 1053 "jdk/internal/util/Preconditions" "SIOOBE_FORMATTER" "Ljava/util/function/BiFunction;" ∈ aw_tb := aw_in 534 (by decide +kernel) rfl
theorem lk_536 : Jvm.Cond.methodLink RJ0 1059 yJ3_checkIndex_8e157 ∈ aw_tb := aw_in 536 (by decide +kernel) rfl
theorem lk_558 : Jvm.Cond.methodLink RX4 190 yX1_readItems ∈ aw_tb := aw_in 558 (by decide +kernel) rfl
theorem lk_562 : Jvm.Cond.methodLink RX1 49 yX1_hasFault ∈ aw_tb := aw_in 562 (by decide +kernel) rfl
theorem lk_566 : Jvm.Cond.methodLink RX1 53 yX1_readItem ∈ aw_tb := aw_in 566 (by decide +kernel) rfl
theorem lk_571 : Jvm.Cond.methodLink RX1 64 yX1_readPotter ∈ aw_tb := aw_in 571 (by decide +kernel) rfl
theorem lk_575 : Jvm.Cond.methodLink RX1 79 yX0_isFull ∈ aw_tb := aw_in 575 (by decide +kernel) rfl
theorem lk_576 : Jvm.Cond.methodLink RX1 76 yX1_refuse ∈ aw_tb := aw_in 576 (by decide +kernel) rfl
theorem lk_580 : Jvm.Cond.methodLink RX1 84 yX1_step ∈ aw_tb := aw_in 580 (by decide +kernel) rfl
theorem lk_584 : Jvm.Cond.methodLink RX1 87 yX1_readPerhaps ∈ aw_tb := aw_in 584 (by decide +kernel) rfl
theorem lk_588 : Jvm.Cond.methodLink RX1 95 yX1_readNumber ∈ aw_tb := aw_in 588 (by decide +kernel) rfl
theorem lk_592 : Jvm.Cond.methodLink RX1 91 yX0_addPotter ∈ aw_tb := aw_in 592 (by decide +kernel) rfl
theorem lk_593 : Jvm.Cond.methodLink RX1 67 yX1_readRift ∈ aw_tb := aw_in 593 (by decide +kernel) rfl
theorem lk_597 : Jvm.Cond.methodLink RX1 101 yX0_setRift ∈ aw_tb := aw_in 597 (by decide +kernel) rfl
theorem lk_598 : Jvm.Cond.methodLink RX1 70 yX1_readPair ∈ aw_tb := aw_in 598 (by decide +kernel) rfl
theorem lk_602 : Jvm.Cond.methodLink RX1 73 yX1_readClay ∈ aw_tb := aw_in 602 (by decide +kernel) rfl
theorem lk_606 : Jvm.Cond.methodLink RX1 56 yX1_take ∈ aw_tb := aw_in 606 (by decide +kernel) rfl
theorem lk_610 : Jvm.Cond.methodLink RX4 193 yX1_hasFault ∈ aw_tb := aw_in 610 (by decide +kernel) rfl
theorem lk_620 : Jvm.Cond.methodLink RX4 202 yX4_isOrIsUnder ∈ aw_tb := aw_in 620 (by decide +kernel) rfl
theorem lk_623 : Jvm.Cond.fieldLink RX4 242 "TwoWheel" "UNDER" "[I" ∈ aw_tb := aw_in 623 (by decide +kernel) rfl
theorem lk_629 : Jvm.Cond.methodLink RX4 205 yX2_lay ∈ aw_tb := aw_in 629 (by decide +kernel) rfl
theorem lk_637 : Jvm.Cond.methodLink RX4 211 yX2_put ∈ aw_tb := aw_in 637 (by decide +kernel) rfl
theorem lk_641 : Jvm.Cond.methodLink RX2 21 yX2_lowest ∈ aw_tb := aw_in 641 (by decide +kernel) rfl
theorem lk_648 : Jvm.Cond.methodLink RX4 217 yX2_hasRun ∈ aw_tb := aw_in 648 (by decide +kernel) rfl
theorem lk_652 : Jvm.Cond.methodLink RX4 220 yX2_move ∈ aw_tb := aw_in 652 (by decide +kernel) rfl
theorem lk_656 : Jvm.Cond.methodLink RX2 25 arraycopyName ∈ aw_tb := aw_in 656 (by decide +kernel) rfl
theorem lk_661 : Jvm.Cond.methodLink RX4 224 Lib.Math.min.name ∈ aw_tb := aw_in 661 (by decide +kernel) rfl
theorem lk_682 : Jvm.Cond.methodLink RX4 232 yX0_spotsHeld ∈ aw_tb := aw_in 682 (by decide +kernel) rfl
theorem lk_752 : Jvm.Cond.constantLong RX5 113 20 ∈ aw_tb := aw_in 752 (by decide +kernel) rfl
theorem lk_753 : Jvm.Cond.methodLink RX5 42 yX5_in ∈ aw_tb := aw_in 753 (by decide +kernel) rfl
theorem lk_756 : Jvm.Cond.methodLink RX5 115 yX5_becomes ∈ aw_tb := aw_in 756 (by decide +kernel) rfl
theorem lk_760 : Jvm.Cond.methodLink RX5 118 yX5_finds ∈ aw_tb := aw_in 760 (by decide +kernel) rfl
theorem lk_764 : Jvm.Cond.constant RX5 41 (-1000001) ∈ aw_tb := aw_in 764 (by decide +kernel) rfl
theorem lk_769 : Jvm.Cond.constantLong RX5 121 5 ∈ aw_tb := aw_in 769 (by decide +kernel) rfl
theorem lk_770 : Jvm.Cond.constantLong RX5 123 7 ∈ aw_tb := aw_in 770 (by decide +kernel) rfl
theorem lk_779 : Jvm.Cond.constantLong RX5 128 6 ∈ aw_tb := aw_in 779 (by decide +kernel) rfl
theorem lk_780 : Jvm.Cond.constantLong RX5 130 99 ∈ aw_tb := aw_in 780 (by decide +kernel) rfl
theorem lk_781 : Jvm.Cond.methodLink RX5 132 yX5_comes ∈ aw_tb := aw_in 781 (by decide +kernel) rfl
theorem lk_785 : Jvm.Cond.methodLink RX5 125 yX5_sets ∈ aw_tb := aw_in 785 (by decide +kernel) rfl
theorem lk_793 : Jvm.Cond.methodLink RX5 46 yX5_isPotter ∈ aw_tb := aw_in 793 (by decide +kernel) rfl
theorem lk_797 : Jvm.Cond.constantLong RX5 135 9 ∈ aw_tb := aw_in 797 (by decide +kernel) rfl
theorem lk_798 : Jvm.Cond.methodLink RX5 61 yX5_pushes ∈ aw_tb := aw_in 798 (by decide +kernel) rfl
theorem lk_802 : Jvm.Cond.methodLink RX5 54 yX5_its ∈ aw_tb := aw_in 802 (by decide +kernel) rfl
theorem lk_806 : Jvm.Cond.methodLink RX5 50 yX5_held ∈ aw_tb := aw_in 806 (by decide +kernel) rfl
theorem lk_809 : Jvm.Cond.methodLink RX5 84 yX5_says ∈ aw_tb := aw_in 809 (by decide +kernel) rfl
theorem lk_813 : Jvm.Cond.methodLink RX5 81 yX5_cools ∈ aw_tb := aw_in 813 (by decide +kernel) rfl
theorem lk_817 : Jvm.Cond.methodLink RX5 78 yX5_boils ∈ aw_tb := aw_in 817 (by decide +kernel) rfl
theorem lk_825 : Jvm.Cond.methodLink RX5 137 yX5_mostOf ∈ aw_tb := aw_in 825 (by decide +kernel) rfl
theorem lk_832 : Jvm.Cond.methodLink RX5 103 yX5_areTwo ∈ aw_tb := aw_in 832 (by decide +kernel) rfl
theorem lk_836 : Jvm.Cond.methodLink RX5 58 yX5_between ∈ aw_tb := aw_in 836 (by decide +kernel) rfl
theorem lk_843 : Jvm.Cond.constantLong RX5 140 3 ∈ aw_tb := aw_in 843 (by decide +kernel) rfl
theorem lk_844 : Jvm.Cond.methodLink RX5 65 yX5_rises ∈ aw_tb := aw_in 844 (by decide +kernel) rfl
theorem lk_848 : Jvm.Cond.methodLink RX5 68 yX5_leans ∈ aw_tb := aw_in 848 (by decide +kernel) rfl
theorem lk_852 : Jvm.Cond.methodLink RX5 87 yX5_isFlop ∈ aw_tb := aw_in 852 (by decide +kernel) rfl
theorem lk_856 : Jvm.Cond.methodLink RX5 71 yX5_size ∈ aw_tb := aw_in 856 (by decide +kernel) rfl
theorem lk_863 : Jvm.Cond.constantLong RX5 142 60 ∈ aw_tb := aw_in 863 (by decide +kernel) rfl
theorem lk_864 : Jvm.Cond.constant RX5 98 99999 ∈ aw_tb := aw_in 864 (by decide +kernel) rfl
theorem lk_865 : Jvm.Cond.methodLink RX5 144 yX5_daysGo ∈ aw_tb := aw_in 865 (by decide +kernel) rfl
theorem lk_869 : Jvm.Cond.methodLink RX5 110 yX5_dayGoes ∈ aw_tb := aw_in 869 (by decide +kernel) rfl
theorem lk_873 : Jvm.Cond.methodLink RX5 99 yX5_todays ∈ aw_tb := aw_in 873 (by decide +kernel) rfl
theorem lk_877 : Jvm.Cond.methodLink RX5 106 yX5_pots ∈ aw_tb := aw_in 877 (by decide +kernel) rfl
theorem lk_881 : Jvm.Cond.methodLink RX5 91 yX5_flops ∈ aw_tb := aw_in 881 (by decide +kernel) rfl
theorem lk_885 : Jvm.Cond.methodLink RX5 74 yX5_adds ∈ aw_tb := aw_in 885 (by decide +kernel) rfl
theorem lk_889 : Jvm.Cond.methodLink RX5 95 yX5_throwsOne ∈ aw_tb := aw_in 889 (by decide +kernel) rfl
theorem lk_897 : Jvm.Cond.methodLink RX5 147 yX5_sumOf ∈ aw_tb := aw_in 897 (by decide +kernel) rfl
theorem lk_901 : Jvm.Cond.methodLink RX5 150 yX5_farthest ∈ aw_tb := aw_in 901 (by decide +kernel) rfl
theorem lk_909 : Jvm.Cond.constantLong RX5 157 100 ∈ aw_tb := aw_in 909 (by decide +kernel) rfl
theorem lk_910 : Jvm.Cond.methodLink RX5 153 yX5_copies ∈ aw_tb := aw_in 910 (by decide +kernel) rfl
theorem lk_917 : Jvm.Cond.methodLink RX5 159 yX5_behind ∈ aw_tb := aw_in 917 (by decide +kernel) rfl
theorem lk_925 : Jvm.Cond.methodLink RX5 162 yX5_firstOf ∈ aw_tb := aw_in 925 (by decide +kernel) rfl
theorem lk_937 : Jvm.Cond.constantLong RX5 165 9999 ∈ aw_tb := aw_in 937 (by decide +kernel) rfl
theorem lk_942 : Jvm.Cond.methodLink RX5 167 yX5_isShort ∈ aw_tb := aw_in 942 (by decide +kernel) rfl
theorem lk_949 : Jvm.Cond.methodLink RX5 170 yX5_bestOf ∈ aw_tb := aw_in 949 (by decide +kernel) rfl
theorem lk_965 : Jvm.Cond.methodLink RX5 173 yX5_ones ∈ aw_tb := aw_in 965 (by decide +kernel) rfl
theorem lk_968 : Jvm.Cond.methodLink RX5 176 yX5_reconciles ∈ aw_tb := aw_in 968 (by decide +kernel) rfl
theorem lk_976 : Jvm.Cond.methodLink RX5 179 yX5_whyNone ∈ aw_tb := aw_in 976 (by decide +kernel) rfl
theorem lk_980 : Jvm.Cond.methodLink RX5 302 yX5_isSheet ∈ aw_tb := aw_in 980 (by decide +kernel) rfl
theorem lk_983 : Jvm.Cond.methodLink RX5 182 yX5_fitting ∈ aw_tb := aw_in 983 (by decide +kernel) rfl
theorem lk_995 : Jvm.Cond.methodLink RX5 187 yX5_draw ∈ aw_tb := aw_in 995 (by decide +kernel) rfl
theorem lk_999 : Jvm.Cond.constant RX5 186 1103515245 ∈ aw_tb := aw_in 999 (by decide +kernel) rfl
theorem lk_1004 : Jvm.Cond.constantLong RX5 190 14 ∈ aw_tb := aw_in 1004 (by decide +kernel) rfl
theorem lk_1005 : Jvm.Cond.methodLink RX5 192 yX5_common ∈ aw_tb := aw_in 1005 (by decide +kernel) rfl
theorem lk_1016 : Jvm.Cond.constantLong RX5 195 4 ∈ aw_tb := aw_in 1016 (by decide +kernel) rfl
theorem lk_1025 : Jvm.Cond.methodLink RX5 294 yX5_items ∈ aw_tb := aw_in 1025 (by decide +kernel) rfl
theorem lk_1029 : Jvm.Cond.methodLink RX5 257 yX5_next_ ∈ aw_tb := aw_in 1029 (by decide +kernel) rfl
theorem lk_1033 : Jvm.Cond.methodLink RX5 204 yX5_byteAt ∈ aw_tb := aw_in 1033 (by decide +kernel) rfl
theorem lk_1037 : Jvm.Cond.methodLink RX5 217 yX5_letter ∈ aw_tb := aw_in 1037 (by decide +kernel) rfl
theorem lk_1040 : Jvm.Cond.constantLong RX5 220 100000000000000000 ∈ aw_tb := aw_in 1040 (by decide +kernel) rfl
theorem lk_1041 : Jvm.Cond.constantLong RX5 222 27 ∈ aw_tb := aw_in 1041 (by decide +kernel) rfl
theorem lk_1042 : Jvm.Cond.methodLink RX5 224 yX5_isDigit ∈ aw_tb := aw_in 1042 (by decide +kernel) rfl
theorem lk_1045 : Jvm.Cond.constantLong RX5 227 999 ∈ aw_tb := aw_in 1045 (by decide +kernel) rfl
theorem lk_1046 : Jvm.Cond.constantLong RX5 229 10 ∈ aw_tb := aw_in 1046 (by decide +kernel) rfl
theorem lk_1047 : Jvm.Cond.constantLong RX5 231 48 ∈ aw_tb := aw_in 1047 (by decide +kernel) rfl
theorem lk_1048 : Jvm.Cond.methodLink RX5 291 yX5_item ∈ aw_tb := aw_in 1048 (by decide +kernel) rfl
theorem lk_1052 : Jvm.Cond.methodLink RX5 273 yX5_kindHere ∈ aw_tb := aw_in 1052 (by decide +kernel) rfl
theorem lk_1056 : Jvm.Cond.constantLong RX5 236 237962520 ∈ aw_tb := aw_in 1056 (by decide +kernel) rfl
theorem lk_1057 : Jvm.Cond.methodLink RX5 238 yX5_isWord ∈ aw_tb := aw_in 1057 (by decide +kernel) rfl
theorem lk_1061 : Jvm.Cond.constantLong RX5 242 3410828815 ∈ aw_tb := aw_in 1061 (by decide +kernel) rfl
theorem lk_1062 : Jvm.Cond.constantLong RX5 244 14270 ∈ aw_tb := aw_in 1062 (by decide +kernel) rfl
theorem lk_1063 : Jvm.Cond.constantLong RX5 246 87024528 ∈ aw_tb := aw_in 1063 (by decide +kernel) rfl
theorem lk_1064 : Jvm.Cond.constantLong RX5 248 6223046688 ∈ aw_tb := aw_in 1064 (by decide +kernel) rfl
theorem lk_1065 : Jvm.Cond.constantLong RX5 250 206754213222 ∈ aw_tb := aw_in 1065 (by decide +kernel) rfl
theorem lk_1066 : Jvm.Cond.constantLong RX5 252 1888 ∈ aw_tb := aw_in 1066 (by decide +kernel) rfl
theorem lk_1067 : Jvm.Cond.methodLink RX5 276 yX5_potterHere ∈ aw_tb := aw_in 1067 (by decide +kernel) rfl
theorem lk_1071 : Jvm.Cond.methodLink RX5 254 yX5_wrongHere ∈ aw_tb := aw_in 1071 (by decide +kernel) rfl
theorem lk_1075 : Jvm.Cond.constantLong RX5 263 161156 ∈ aw_tb := aw_in 1075 (by decide +kernel) rfl
theorem lk_1076 : Jvm.Cond.methodLink RX5 265 yX5_perhaps ∈ aw_tb := aw_in 1076 (by decide +kernel) rfl
theorem lk_1080 : Jvm.Cond.methodLink RX5 260 yX5_numberHere ∈ aw_tb := aw_in 1080 (by decide +kernel) rfl
theorem lk_1084 : Jvm.Cond.constantLong RX5 269 60269 ∈ aw_tb := aw_in 1084 (by decide +kernel) rfl
theorem lk_1085 : Jvm.Cond.constantLong RX5 271 13385674 ∈ aw_tb := aw_in 1085 (by decide +kernel) rfl
theorem lk_1086 : Jvm.Cond.constantLong RX5 279 361037 ∈ aw_tb := aw_in 1086 (by decide +kernel) rfl
theorem lk_1087 : Jvm.Cond.methodLink RX5 281 yX5_riftHere ∈ aw_tb := aw_in 1087 (by decide +kernel) rfl
theorem lk_1091 : Jvm.Cond.constantLong RX5 284 315918 ∈ aw_tb := aw_in 1091 (by decide +kernel) rfl
theorem lk_1092 : Jvm.Cond.methodLink RX5 286 yX5_pairHere ∈ aw_tb := aw_in 1092 (by decide +kernel) rfl
theorem lk_1096 : Jvm.Cond.constantLong RX5 289 67849 ∈ aw_tb := aw_in 1096 (by decide +kernel) rfl
theorem lk_1101 : Jvm.Cond.constantLong RX5 297 (-1) ∈ aw_tb := aw_in 1101 (by decide +kernel) rfl
theorem lk_1106 : Jvm.Cond.methodLink RX5 299 yX5_above ∈ aw_tb := aw_in 1106 (by decide +kernel) rfl
theorem lk_1145 : Jvm.Cond.methodLink RX5 309 yX5_holding ∈ aw_tb := aw_in 1145 (by decide +kernel) rfl
theorem lk_1153 : Jvm.Cond.fieldLink RJ0 9 "java/lang/String" "value" "[B" ∈ aw_tb := aw_in 1153 (by decide +kernel) rfl
theorem lk_1154 : Jvm.Cond.fieldLink RJ0 15 "java/lang/String" "coder" "B" ∈ aw_tb := aw_in 1154 (by decide +kernel) rfl
theorem aw_in0 : ∀ w ∈ u_ws RX0 TX0 11, w ∈ aw_tb := by
  have h : (u_ws RX0 TX0 11).all (fun w => decide (w ∈ aw_tb)) = true := by decide +kernel
  exact fun w hw => of_decide_eq_true (List.all_eq_true.mp h w hw)
theorem aw_in1 : ∀ w ∈ u_ws RX1 TX1 6, w ∈ aw_tb := by
  have h : (u_ws RX1 TX1 6).all (fun w => decide (w ∈ aw_tb)) = true := by decide +kernel
  exact fun w hw => of_decide_eq_true (List.all_eq_true.mp h w hw)
theorem aw_in2 : ∀ w ∈ u_ws RX2 TX2 3, w ∈ aw_tb := by
  have h : (u_ws RX2 TX2 3).all (fun w => decide (w ∈ aw_tb)) = true := by decide +kernel
  exact fun w hw => of_decide_eq_true (List.all_eq_true.mp h w hw)
theorem aw_in3 : ∀ w ∈ u_ws RX3 TX3 2, w ∈ aw_tb := by
  have h : (u_ws RX3 TX3 2).all (fun w => decide (w ∈ aw_tb)) = true := by decide +kernel
  exact fun w hw => of_decide_eq_true (List.all_eq_true.mp h w hw)
theorem aw_in4 : ∀ w ∈ u_ws RX4 TX4 8, w ∈ aw_tb := by
  have h : (u_ws RX4 TX4 8).all (fun w => decide (w ∈ aw_tb)) = true := by decide +kernel
  exact fun w hw => of_decide_eq_true (List.all_eq_true.mp h w hw)
theorem aw_in5 : ∀ w ∈ u_ws RX5 TX5 17, w ∈ aw_tb := by
  have h : (u_ws RX5 TX5 17).all (fun w => decide (w ∈ aw_tb)) = true := by decide +kernel
  exact fun w hw => of_decide_eq_true (List.all_eq_true.mp h w hw)
theorem fl_X0_15 : aw_fl RX0 15 0 5 := ⟨RX0, TX0, 11, rfl, (Nat.le_of_ble_eq_true rfl), aw_in0, aw_in 43 (by decide +kernel) rfl⟩
theorem fl_X0_18 : aw_fl RX0 18 0 7 := ⟨RX0, TX0, 11, rfl, (Nat.le_of_ble_eq_true rfl), aw_in0, aw_in 48 (by decide +kernel) rfl⟩
theorem fl_X0_22 : aw_fl RX0 22 0 8 := ⟨RX0, TX0, 11, rfl, (Nat.le_of_ble_eq_true rfl), aw_in0, aw_in 51 (by decide +kernel) rfl⟩
theorem fl_X0_25 : aw_fl RX0 25 0 9 := ⟨RX0, TX0, 11, rfl, (Nat.le_of_ble_eq_true rfl), aw_in0, aw_in 53 (by decide +kernel) rfl⟩
theorem fl_X0_28 : aw_fl RX0 28 0 10 := ⟨RX0, TX0, 11, rfl, (Nat.le_of_ble_eq_true rfl), aw_in0, aw_in 54 (by decide +kernel) rfl⟩
theorem fl_X0_37 : aw_fl RX0 37 0 1 := ⟨RX0, TX0, 11, rfl, (Nat.le_of_ble_eq_true rfl), aw_in0, aw_in 35 (by decide +kernel) rfl⟩
theorem fl_X0_40 : aw_fl RX0 40 0 2 := ⟨RX0, TX0, 11, rfl, (Nat.le_of_ble_eq_true rfl), aw_in0, aw_in 37 (by decide +kernel) rfl⟩
theorem fl_X0_43 : aw_fl RX0 43 0 3 := ⟨RX0, TX0, 11, rfl, (Nat.le_of_ble_eq_true rfl), aw_in0, aw_in 39 (by decide +kernel) rfl⟩
theorem fl_X0_46 : aw_fl RX0 46 0 4 := ⟨RX0, TX0, 11, rfl, (Nat.le_of_ble_eq_true rfl), aw_in0, aw_in 41 (by decide +kernel) rfl⟩
theorem fl_X0_49 : aw_fl RX0 49 0 6 := ⟨RX0, TX0, 11, rfl, (Nat.le_of_ble_eq_true rfl), aw_in0, aw_in 45 (by decide +kernel) rfl⟩
theorem fl_X0_9 : aw_fl RX0 9 0 0 := ⟨RX0, TX0, 11, rfl, (Nat.le_of_ble_eq_true rfl), aw_in0, aw_in 32 (by decide +kernel) rfl⟩
theorem fl_X1_105 : aw_fl RX1 105 0 7 := ⟨RX0, TX0, 11, rfl, (Nat.le_of_ble_eq_true rfl), aw_in0, aw_in 50 (by decide +kernel) rfl⟩
theorem fl_X1_15 : aw_fl RX1 15 1 1 := ⟨RX1, TX1, 6, rfl, (Nat.le_of_ble_eq_true rfl), aw_in1, aw_in 103 (by decide +kernel) rfl⟩
theorem fl_X1_19 : aw_fl RX1 19 1 2 := ⟨RX1, TX1, 6, rfl, (Nat.le_of_ble_eq_true rfl), aw_in1, aw_in 104 (by decide +kernel) rfl⟩
theorem fl_X1_23 : aw_fl RX1 23 1 3 := ⟨RX1, TX1, 6, rfl, (Nat.le_of_ble_eq_true rfl), aw_in1, aw_in 105 (by decide +kernel) rfl⟩
theorem fl_X1_26 : aw_fl RX1 26 1 5 := ⟨RX1, TX1, 6, rfl, (Nat.le_of_ble_eq_true rfl), aw_in1, aw_in 107 (by decide +kernel) rfl⟩
theorem fl_X1_30 : aw_fl RX1 30 3 1 := ⟨RX3, TX3, 2, rfl, (Nat.le_of_ble_eq_true rfl), aw_in3, aw_in 89 (by decide +kernel) rfl⟩
theorem fl_X1_35 : aw_fl RX1 35 3 0 := ⟨RX3, TX3, 2, rfl, (Nat.le_of_ble_eq_true rfl), aw_in3, aw_in 87 (by decide +kernel) rfl⟩
theorem fl_X1_46 : aw_fl RX1 46 1 4 := ⟨RX1, TX1, 6, rfl, (Nat.le_of_ble_eq_true rfl), aw_in1, aw_in 106 (by decide +kernel) rfl⟩
theorem fl_X1_9 : aw_fl RX1 9 1 0 := ⟨RX1, TX1, 6, rfl, (Nat.le_of_ble_eq_true rfl), aw_in1, aw_in 102 (by decide +kernel) rfl⟩
theorem fl_X1_98 : aw_fl RX1 98 0 6 := ⟨RX0, TX0, 11, rfl, (Nat.le_of_ble_eq_true rfl), aw_in0, aw_in 46 (by decide +kernel) rfl⟩
theorem fl_X2_15 : aw_fl RX2 15 2 1 := ⟨RX2, TX2, 3, rfl, (Nat.le_of_ble_eq_true rfl), aw_in2, aw_in 130 (by decide +kernel) rfl⟩
theorem fl_X2_18 : aw_fl RX2 18 2 2 := ⟨RX2, TX2, 3, rfl, (Nat.le_of_ble_eq_true rfl), aw_in2, aw_in 132 (by decide +kernel) rfl⟩
theorem fl_X2_9 : aw_fl RX2 9 2 0 := ⟨RX2, TX2, 3, rfl, (Nat.le_of_ble_eq_true rfl), aw_in2, aw_in 128 (by decide +kernel) rfl⟩
theorem fl_X3_15 : aw_fl RX3 15 3 1 := ⟨RX3, TX3, 2, rfl, (Nat.le_of_ble_eq_true rfl), aw_in3, aw_in 88 (by decide +kernel) rfl⟩
theorem fl_X3_9 : aw_fl RX3 9 3 0 := ⟨RX3, TX3, 2, rfl, (Nat.le_of_ble_eq_true rfl), aw_in3, aw_in 86 (by decide +kernel) rfl⟩
theorem fl_X4_10 : aw_fl RX4 10 4 0 := ⟨RX4, TX4, 8, rfl, (Nat.le_of_ble_eq_true rfl), aw_in4, aw_in 140 (by decide +kernel) rfl⟩
theorem fl_X4_111 : aw_fl RX4 111 0 4 := ⟨RX0, TX0, 11, rfl, (Nat.le_of_ble_eq_true rfl), aw_in0, aw_in 42 (by decide +kernel) rfl⟩
theorem fl_X4_119 : aw_fl RX4 119 0 1 := ⟨RX0, TX0, 11, rfl, (Nat.le_of_ble_eq_true rfl), aw_in0, aw_in 36 (by decide +kernel) rfl⟩
theorem fl_X4_122 : aw_fl RX4 122 0 2 := ⟨RX0, TX0, 11, rfl, (Nat.le_of_ble_eq_true rfl), aw_in0, aw_in 38 (by decide +kernel) rfl⟩
theorem fl_X4_125 : aw_fl RX4 125 0 3 := ⟨RX0, TX0, 11, rfl, (Nat.le_of_ble_eq_true rfl), aw_in0, aw_in 40 (by decide +kernel) rfl⟩
theorem fl_X4_142 : aw_fl RX4 142 0 6 := ⟨RX0, TX0, 11, rfl, (Nat.le_of_ble_eq_true rfl), aw_in0, aw_in 47 (by decide +kernel) rfl⟩
theorem fl_X4_16 : aw_fl RX4 16 4 1 := ⟨RX4, TX4, 8, rfl, (Nat.le_of_ble_eq_true rfl), aw_in4, aw_in 141 (by decide +kernel) rfl⟩
theorem fl_X4_178 : aw_fl RX4 178 0 5 := ⟨RX0, TX0, 11, rfl, (Nat.le_of_ble_eq_true rfl), aw_in0, aw_in 44 (by decide +kernel) rfl⟩
theorem fl_X4_181 : aw_fl RX4 181 3 1 := ⟨RX3, TX3, 2, rfl, (Nat.le_of_ble_eq_true rfl), aw_in3, aw_in 90 (by decide +kernel) rfl⟩
theorem fl_X4_19 : aw_fl RX4 19 4 2 := ⟨RX4, TX4, 8, rfl, (Nat.le_of_ble_eq_true rfl), aw_in4, aw_in 142 (by decide +kernel) rfl⟩
theorem fl_X4_196 : aw_fl RX4 196 1 5 := ⟨RX1, TX1, 6, rfl, (Nat.le_of_ble_eq_true rfl), aw_in1, aw_in 108 (by decide +kernel) rfl⟩
theorem fl_X4_199 : aw_fl RX4 199 0 10 := ⟨RX0, TX0, 11, rfl, (Nat.le_of_ble_eq_true rfl), aw_in0, aw_in 55 (by decide +kernel) rfl⟩
theorem fl_X4_208 : aw_fl RX4 208 2 1 := ⟨RX2, TX2, 3, rfl, (Nat.le_of_ble_eq_true rfl), aw_in2, aw_in 131 (by decide +kernel) rfl⟩
theorem fl_X4_214 : aw_fl RX4 214 2 0 := ⟨RX2, TX2, 3, rfl, (Nat.le_of_ble_eq_true rfl), aw_in2, aw_in 129 (by decide +kernel) rfl⟩
theorem fl_X4_22 : aw_fl RX4 22 4 3 := ⟨RX4, TX4, 8, rfl, (Nat.le_of_ble_eq_true rfl), aw_in4, aw_in 143 (by decide +kernel) rfl⟩
theorem fl_X4_29 : aw_fl RX4 29 4 4 := ⟨RX4, TX4, 8, rfl, (Nat.le_of_ble_eq_true rfl), aw_in4, aw_in 144 (by decide +kernel) rfl⟩
theorem fl_X4_38 : aw_fl RX4 38 4 5 := ⟨RX4, TX4, 8, rfl, (Nat.le_of_ble_eq_true rfl), aw_in4, aw_in 145 (by decide +kernel) rfl⟩
theorem fl_X4_45 : aw_fl RX4 45 4 6 := ⟨RX4, TX4, 8, rfl, (Nat.le_of_ble_eq_true rfl), aw_in4, aw_in 146 (by decide +kernel) rfl⟩
theorem fl_X4_49 : aw_fl RX4 49 4 7 := ⟨RX4, TX4, 8, rfl, (Nat.le_of_ble_eq_true rfl), aw_in4, aw_in 147 (by decide +kernel) rfl⟩
theorem fl_X4_61 : aw_fl RX4 61 0 0 := ⟨RX0, TX0, 11, rfl, (Nat.le_of_ble_eq_true rfl), aw_in0, aw_in 33 (by decide +kernel) rfl⟩
theorem fl_X4_65 : aw_fl RX4 65 0 7 := ⟨RX0, TX0, 11, rfl, (Nat.le_of_ble_eq_true rfl), aw_in0, aw_in 49 (by decide +kernel) rfl⟩
theorem fl_X4_87 : aw_fl RX4 87 0 8 := ⟨RX0, TX0, 11, rfl, (Nat.le_of_ble_eq_true rfl), aw_in0, aw_in 52 (by decide +kernel) rfl⟩
theorem fl_X5_13 : aw_fl RX5 13 5 1 := ⟨RX5, TX5, 17, rfl, (Nat.le_of_ble_eq_true rfl), aw_in5, aw_in 697 (by decide +kernel) rfl⟩
theorem fl_X5_16 : aw_fl RX5 16 5 2 := ⟨RX5, TX5, 17, rfl, (Nat.le_of_ble_eq_true rfl), aw_in5, aw_in 698 (by decide +kernel) rfl⟩
theorem fl_X5_19 : aw_fl RX5 19 5 3 := ⟨RX5, TX5, 17, rfl, (Nat.le_of_ble_eq_true rfl), aw_in5, aw_in 699 (by decide +kernel) rfl⟩
theorem fl_X5_197 : aw_fl RX5 197 5 7 := ⟨RX5, TX5, 17, rfl, (Nat.le_of_ble_eq_true rfl), aw_in5, aw_in 703 (by decide +kernel) rfl⟩
theorem fl_X5_201 : aw_fl RX5 201 5 8 := ⟨RX5, TX5, 17, rfl, (Nat.le_of_ble_eq_true rfl), aw_in5, aw_in 704 (by decide +kernel) rfl⟩
theorem fl_X5_207 : aw_fl RX5 207 5 10 := ⟨RX5, TX5, 17, rfl, (Nat.le_of_ble_eq_true rfl), aw_in5, aw_in 706 (by decide +kernel) rfl⟩
theorem fl_X5_210 : aw_fl RX5 210 5 11 := ⟨RX5, TX5, 17, rfl, (Nat.le_of_ble_eq_true rfl), aw_in5, aw_in 707 (by decide +kernel) rfl⟩
theorem fl_X5_214 : aw_fl RX5 214 5 9 := ⟨RX5, TX5, 17, rfl, (Nat.le_of_ble_eq_true rfl), aw_in5, aw_in 705 (by decide +kernel) rfl⟩
theorem fl_X5_22 : aw_fl RX5 22 5 5 := ⟨RX5, TX5, 17, rfl, (Nat.le_of_ble_eq_true rfl), aw_in5, aw_in 701 (by decide +kernel) rfl⟩
theorem fl_X5_233 : aw_fl RX5 233 5 12 := ⟨RX5, TX5, 17, rfl, (Nat.le_of_ble_eq_true rfl), aw_in5, aw_in 708 (by decide +kernel) rfl⟩
theorem fl_X5_25 : aw_fl RX5 25 5 6 := ⟨RX5, TX5, 17, rfl, (Nat.le_of_ble_eq_true rfl), aw_in5, aw_in 702 (by decide +kernel) rfl⟩
theorem fl_X5_29 : aw_fl RX5 29 5 13 := ⟨RX5, TX5, 17, rfl, (Nat.le_of_ble_eq_true rfl), aw_in5, aw_in 709 (by decide +kernel) rfl⟩
theorem fl_X5_305 : aw_fl RX5 305 5 4 := ⟨RX5, TX5, 17, rfl, (Nat.le_of_ble_eq_true rfl), aw_in5, aw_in 700 (by decide +kernel) rfl⟩
theorem fl_X5_32 : aw_fl RX5 32 5 14 := ⟨RX5, TX5, 17, rfl, (Nat.le_of_ble_eq_true rfl), aw_in5, aw_in 710 (by decide +kernel) rfl⟩
theorem fl_X5_35 : aw_fl RX5 35 5 15 := ⟨RX5, TX5, 17, rfl, (Nat.le_of_ble_eq_true rfl), aw_in5, aw_in 711 (by decide +kernel) rfl⟩
theorem fl_X5_38 : aw_fl RX5 38 5 16 := ⟨RX5, TX5, 17, rfl, (Nat.le_of_ble_eq_true rfl), aw_in5, aw_in 712 (by decide +kernel) rfl⟩
theorem fl_X5_7 : aw_fl RX5 7 5 0 := ⟨RX5, TX5, 17, rfl, (Nat.le_of_ble_eq_true rfl), aw_in5, aw_in 696 (by decide +kernel) rfl⟩
theorem fp_X0_15 : aw_fp RX0 15 0 5 .int := ⟨RX0, TX0, 11, tyX0, rfl, (Nat.le_of_ble_eq_true rfl), aw_in0, aw_in 43 (by decide +kernel) rfl, tyX0_ok, nmX0, rfl, tyX0_ok 5 (Nat.le_of_ble_eq_true rfl)⟩
theorem fp_X0_37 : aw_fp RX0 37 0 1 .int := ⟨RX0, TX0, 11, tyX0, rfl, (Nat.le_of_ble_eq_true rfl), aw_in0, aw_in 35 (by decide +kernel) rfl, tyX0_ok, nmX0, rfl, tyX0_ok 1 (Nat.le_of_ble_eq_true rfl)⟩
theorem fp_X0_40 : aw_fp RX0 40 0 2 .int := ⟨RX0, TX0, 11, tyX0, rfl, (Nat.le_of_ble_eq_true rfl), aw_in0, aw_in 37 (by decide +kernel) rfl, tyX0_ok, nmX0, rfl, tyX0_ok 2 (Nat.le_of_ble_eq_true rfl)⟩
theorem fp_X0_43 : aw_fp RX0 43 0 3 .int := ⟨RX0, TX0, 11, tyX0, rfl, (Nat.le_of_ble_eq_true rfl), aw_in0, aw_in 39 (by decide +kernel) rfl, tyX0_ok, nmX0, rfl, tyX0_ok 3 (Nat.le_of_ble_eq_true rfl)⟩
theorem fp_X0_46 : aw_fp RX0 46 0 4 .int := ⟨RX0, TX0, 11, tyX0, rfl, (Nat.le_of_ble_eq_true rfl), aw_in0, aw_in 41 (by decide +kernel) rfl, tyX0_ok, nmX0, rfl, tyX0_ok 4 (Nat.le_of_ble_eq_true rfl)⟩
theorem fp_X0_49 : aw_fp RX0 49 0 6 .int := ⟨RX0, TX0, 11, tyX0, rfl, (Nat.le_of_ble_eq_true rfl), aw_in0, aw_in 45 (by decide +kernel) rfl, tyX0_ok, nmX0, rfl, tyX0_ok 6 (Nat.le_of_ble_eq_true rfl)⟩
theorem fp_X0_9 : aw_fp RX0 9 0 0 .int := ⟨RX0, TX0, 11, tyX0, rfl, (Nat.le_of_ble_eq_true rfl), aw_in0, aw_in 32 (by decide +kernel) rfl, tyX0_ok, nmX0, rfl, tyX0_ok 0 (Nat.le_of_ble_eq_true rfl)⟩
theorem fp_X1_108 : aw_fp RX1 108 0 0 .int := ⟨RX0, TX0, 11, tyX0, rfl, (Nat.le_of_ble_eq_true rfl), aw_in0, aw_in 34 (by decide +kernel) rfl, tyX0_ok, nmX0, rfl, tyX0_ok 0 (Nat.le_of_ble_eq_true rfl)⟩
theorem fp_X1_26 : aw_fp RX1 26 1 5 .int := ⟨RX1, TX1, 6, tyX1, rfl, (Nat.le_of_ble_eq_true rfl), aw_in1, aw_in 107 (by decide +kernel) rfl, tyX1_ok, nmX1, rfl, tyX1_ok 5 (Nat.le_of_ble_eq_true rfl)⟩
theorem fp_X1_46 : aw_fp RX1 46 1 4 .int := ⟨RX1, TX1, 6, tyX1, rfl, (Nat.le_of_ble_eq_true rfl), aw_in1, aw_in 106 (by decide +kernel) rfl, tyX1_ok, nmX1, rfl, tyX1_ok 4 (Nat.le_of_ble_eq_true rfl)⟩
theorem fp_X3_15 : aw_fp RX3 15 3 1 .int := ⟨RX3, TX3, 2, tyX3, rfl, (Nat.le_of_ble_eq_true rfl), aw_in3, aw_in 88 (by decide +kernel) rfl, tyX3_ok, nmX3, rfl, tyX3_ok 1 (Nat.le_of_ble_eq_true rfl)⟩
theorem fp_X4_178 : aw_fp RX4 178 0 5 .int := ⟨RX0, TX0, 11, tyX0, rfl, (Nat.le_of_ble_eq_true rfl), aw_in0, aw_in 44 (by decide +kernel) rfl, tyX0_ok, nmX0, rfl, tyX0_ok 5 (Nat.le_of_ble_eq_true rfl)⟩
theorem fp_X4_181 : aw_fp RX4 181 3 1 .int := ⟨RX3, TX3, 2, tyX3, rfl, (Nat.le_of_ble_eq_true rfl), aw_in3, aw_in 90 (by decide +kernel) rfl, tyX3_ok, nmX3, rfl, tyX3_ok 1 (Nat.le_of_ble_eq_true rfl)⟩
theorem fp_X4_22 : aw_fp RX4 22 4 3 .boolean := ⟨RX4, TX4, 8, tyX4, rfl, (Nat.le_of_ble_eq_true rfl), aw_in4, aw_in 143 (by decide +kernel) rfl, tyX4_ok, nmX4, rfl, tyX4_ok 3 (Nat.le_of_ble_eq_true rfl)⟩
theorem fp_X4_61 : aw_fp RX4 61 0 0 .int := ⟨RX0, TX0, 11, tyX0, rfl, (Nat.le_of_ble_eq_true rfl), aw_in0, aw_in 33 (by decide +kernel) rfl, tyX0_ok, nmX0, rfl, tyX0_ok 0 (Nat.le_of_ble_eq_true rfl)⟩
theorem fp_X5_197 : aw_fp RX5 197 5 7 .int := ⟨RX5, TX5, 17, tyX5, rfl, (Nat.le_of_ble_eq_true rfl), aw_in5, aw_in 703 (by decide +kernel) rfl, tyX5_ok, nmX5, rfl, tyX5_ok 7 (Nat.le_of_ble_eq_true rfl)⟩
theorem fp_X5_201 : aw_fp RX5 201 5 8 .int := ⟨RX5, TX5, 17, tyX5, rfl, (Nat.le_of_ble_eq_true rfl), aw_in5, aw_in 704 (by decide +kernel) rfl, tyX5_ok, nmX5, rfl, tyX5_ok 8 (Nat.le_of_ble_eq_true rfl)⟩
theorem fp_X5_207 : aw_fp RX5 207 5 10 .int := ⟨RX5, TX5, 17, tyX5, rfl, (Nat.le_of_ble_eq_true rfl), aw_in5, aw_in 706 (by decide +kernel) rfl, tyX5_ok, nmX5, rfl, tyX5_ok 10 (Nat.le_of_ble_eq_true rfl)⟩
theorem fp_X5_210 : aw_fp RX5 210 5 11 .long := ⟨RX5, TX5, 17, tyX5, rfl, (Nat.le_of_ble_eq_true rfl), aw_in5, aw_in 707 (by decide +kernel) rfl, tyX5_ok, nmX5, rfl, tyX5_ok 11 (Nat.le_of_ble_eq_true rfl)⟩
theorem fp_X5_214 : aw_fp RX5 214 5 9 .int := ⟨RX5, TX5, 17, tyX5, rfl, (Nat.le_of_ble_eq_true rfl), aw_in5, aw_in 705 (by decide +kernel) rfl, tyX5_ok, nmX5, rfl, tyX5_ok 9 (Nat.le_of_ble_eq_true rfl)⟩
theorem fp_X5_233 : aw_fp RX5 233 5 12 .int := ⟨RX5, TX5, 17, tyX5, rfl, (Nat.le_of_ble_eq_true rfl), aw_in5, aw_in 708 (by decide +kernel) rfl, tyX5_ok, nmX5, rfl, tyX5_ok 12 (Nat.le_of_ble_eq_true rfl)⟩
theorem fp_X5_305 : aw_fp RX5 305 5 4 .boolean := ⟨RX5, TX5, 17, tyX5, rfl, (Nat.le_of_ble_eq_true rfl), aw_in5, aw_in 700 (by decide +kernel) rfl, tyX5_ok, nmX5, rfl, tyX5_ok 4 (Nat.le_of_ble_eq_true rfl)⟩
def rX0_become : Room := { frames := 1, cells := 0, slots := 0, locals := 26 }
def mX0_become : aw_M := (yX0_become, cX0_become, 2, none, rX0_become)
theorem mv_X0_become : aw_mV mX0_become 1 := ⟨⟨aw_in 331 (by decide +kernel) rfl, aw_in 2 (by decide +kernel) rfl, rfl, rfl, by decide, by decide, by decide +kernel⟩, aw_in 329 (by decide +kernel) rfl, aw_in 330 (by decide +kernel) rfl⟩
def rX0_isFull : Room := { frames := 0, cells := 0, slots := 0, locals := 0 }
def mX0_isFull : aw_M := (yX0_isFull, cX0_isFull, 1, some .boolean, rX0_isFull)
theorem mv_X0_isFull : aw_mV mX0_isFull 0 := ⟨⟨aw_in 192 (by decide +kernel) rfl, aw_in 2 (by decide +kernel) rfl, rfl, rfl, by decide, by decide, by decide +kernel⟩, aw_in 190 (by decide +kernel) rfl, aw_in 191 (by decide +kernel) rfl⟩
def rX0_has : Room := { frames := 0, cells := 0, slots := 0, locals := 0 }
def mX0_has : aw_M := (yX0_has, cX0_has, 2, some .boolean, rX0_has)
theorem mv_X0_has : aw_mV mX0_has 1 := ⟨⟨aw_in 204 (by decide +kernel) rfl, aw_in 2 (by decide +kernel) rfl, rfl, rfl, by decide, by decide, by decide +kernel⟩, aw_in 202 (by decide +kernel) rfl, aw_in 203 (by decide +kernel) rfl⟩
def rX0_hasTwo : Room := { frames := 1, cells := 0, slots := 0, locals := 21 }
def mX0_hasTwo : aw_M := (yX0_hasTwo, cX0_hasTwo, 3, some .boolean, rX0_hasTwo)
theorem mv_X0_hasTwo : aw_mV mX0_hasTwo 2 := ⟨⟨aw_in 237 (by decide +kernel) rfl, aw_in 2 (by decide +kernel) rfl, rfl, rfl, by decide, by decide, by decide +kernel⟩, aw_in 235 (by decide +kernel) rfl, aw_in 236 (by decide +kernel) rfl⟩
def rX0_addPotter : Room := { frames := 0, cells := 0, slots := 0, locals := 0 }
def mX0_addPotter : aw_M := (yX0_addPotter, cX0_addPotter, 6, some .int, rX0_addPotter)
theorem mv_X0_addPotter : aw_mV mX0_addPotter 4 := ⟨⟨aw_in 196 (by decide +kernel) rfl, aw_in 2 (by decide +kernel) rfl, rfl, rfl, by decide, by decide, by decide +kernel⟩, aw_in 194 (by decide +kernel) rfl, aw_in 195 (by decide +kernel) rfl⟩
def rX0_pushes : Room := { frames := 1, cells := 0, slots := 0, locals := 21 }
def mX0_pushes : aw_M := (yX0_pushes, cX0_pushes, 5, some .int, rX0_pushes)
theorem mv_X0_pushes : aw_mV mX0_pushes 1 := ⟨⟨aw_in 212 (by decide +kernel) rfl, aw_in 2 (by decide +kernel) rfl, rfl, rfl, by decide, by decide, by decide +kernel⟩, aw_in 210 (by decide +kernel) rfl, aw_in 211 (by decide +kernel) rfl⟩
def rX0_says : Room := { frames := 0, cells := 0, slots := 0, locals := 0 }
def mX0_says : aw_M := (yX0_says, cX0_says, 4, some .int, rX0_says)
theorem mv_X0_says : aw_mV mX0_says 1 := ⟨⟨aw_in 219 (by decide +kernel) rfl, aw_in 2 (by decide +kernel) rfl, rfl, rfl, by decide, by decide, by decide +kernel⟩, aw_in 217 (by decide +kernel) rfl, aw_in 218 (by decide +kernel) rfl⟩
def rX0_tell : Room := { frames := 2, cells := 0, slots := 0, locals := 45 }
def mX0_tell : aw_M := (yX0_tell, cX0_tell, 3, some .int, rX0_tell)
theorem mv_X0_tell : aw_mV mX0_tell 2 := ⟨⟨aw_in 208 (by decide +kernel) rfl, aw_in 2 (by decide +kernel) rfl, rfl, rfl, by decide, by decide, by decide +kernel⟩, aw_in 206 (by decide +kernel) rfl, aw_in 207 (by decide +kernel) rfl⟩
def rX0_riftPlace : Room := { frames := 0, cells := 0, slots := 0, locals := 0 }
def mX0_riftPlace : aw_M := (yX0_riftPlace, cX0_riftPlace, 2, some .int, rX0_riftPlace)
theorem ms_X0_riftPlace : aw_mS mX0_riftPlace 2 := ⟨⟨aw_in 245 (by decide +kernel) rfl, aw_in 2 (by decide +kernel) rfl, rfl, rfl, by decide, by decide, by decide +kernel⟩, aw_in 244 (by decide +kernel) rfl⟩
def rX0_riftOf : Room := { frames := 1, cells := 0, slots := 0, locals := 21 }
def mX0_riftOf : aw_M := (yX0_riftOf, cX0_riftOf, 3, some .int, rX0_riftOf)
theorem mv_X0_riftOf : aw_mV mX0_riftOf 2 := ⟨⟨aw_in 242 (by decide +kernel) rfl, aw_in 2 (by decide +kernel) rfl, rfl, rfl, by decide, by decide, by decide +kernel⟩, aw_in 240 (by decide +kernel) rfl, aw_in 241 (by decide +kernel) rfl⟩
def rX0_setRift : Room := { frames := 1, cells := 0, slots := 0, locals := 21 }
def mX0_setRift : aw_M := (yX0_setRift, cX0_setRift, 4, none, rX0_setRift)
theorem mv_X0_setRift : aw_mV mX0_setRift 3 := ⟨⟨aw_in 249 (by decide +kernel) rfl, aw_in 2 (by decide +kernel) rfl, rfl, rfl, by decide, by decide, by decide +kernel⟩, aw_in 247 (by decide +kernel) rfl, aw_in 248 (by decide +kernel) rfl⟩
def rX0_rises : Room := { frames := 2, cells := 0, slots := 0, locals := 43 }
def mX0_rises : aw_M := (yX0_rises, cX0_rises, 4, some .int, rX0_rises)
theorem mv_X0_rises : aw_mV mX0_rises 3 := ⟨⟨aw_in 257 (by decide +kernel) rfl, aw_in 2 (by decide +kernel) rfl, rfl, rfl, by decide, by decide, by decide +kernel⟩, aw_in 255 (by decide +kernel) rfl, aw_in 256 (by decide +kernel) rfl⟩
def rX0_leans : Room := { frames := 2, cells := 0, slots := 0, locals := 45 }
def mX0_leans : aw_M := (yX0_leans, cX0_leans, 3, some .int, rX0_leans)
theorem mv_X0_leans : aw_mV mX0_leans 2 := ⟨⟨aw_in 262 (by decide +kernel) rfl, aw_in 2 (by decide +kernel) rfl, rfl, rfl, by decide, by decide, by decide +kernel⟩, aw_in 260 (by decide +kernel) rfl, aw_in 261 (by decide +kernel) rfl⟩
def rX4_wouldFlop : Room := { frames := 1, cells := 0, slots := 0, locals := 21 }
def mX4_wouldFlop : aw_M := (yX4_wouldFlop, cX4_wouldFlop, 2, some .boolean, rX4_wouldFlop)
theorem ms_X4_wouldFlop : aw_mS mX4_wouldFlop 2 := ⟨⟨aw_in 265 (by decide +kernel) rfl, aw_in 1 (by decide +kernel) rfl, rfl, rfl, by decide, by decide, by decide +kernel⟩, aw_in 264 (by decide +kernel) rfl⟩
def rX0_claysThatStand : Room := { frames := 3, cells := 0, slots := 0, locals := 67 }
def mX0_claysThatStand : aw_M := (yX0_claysThatStand, cX0_claysThatStand, 6, some .int, rX0_claysThatStand)
theorem mv_X0_claysThatStand : aw_mV mX0_claysThatStand 2 := ⟨⟨aw_in 433 (by decide +kernel) rfl, aw_in 2 (by decide +kernel) rfl, rfl, rfl, by decide, by decide, by decide +kernel⟩, aw_in 431 (by decide +kernel) rfl, aw_in 432 (by decide +kernel) rfl⟩
def rX0_flop : Room := { frames := 1, cells := 0, slots := 0, locals := 21 }
def mX0_flop : aw_M := (yX0_flop, cX0_flop, 3, none, rX0_flop)
theorem mv_X0_flop : aw_mV mX0_flop 1 := ⟨⟨aw_in 289 (by decide +kernel) rfl, aw_in 2 (by decide +kernel) rfl, rfl, rfl, by decide, by decide, by decide +kernel⟩, aw_in 288 (by decide +kernel) rfl, aw_inS 2 (by decide +kernel) rfl⟩
def rX0_stand : Room := { frames := 1, cells := 0, slots := 0, locals := 21 }
def mX0_stand : aw_M := (yX0_stand, cX0_stand, 3, none, rX0_stand)
theorem mv_X0_stand : aw_mV mX0_stand 1 := ⟨⟨aw_in 296 (by decide +kernel) rfl, aw_in 2 (by decide +kernel) rfl, rfl, rfl, by decide, by decide, by decide +kernel⟩, aw_in 295 (by decide +kernel) rfl, aw_inS 3 (by decide +kernel) rfl⟩
def rX0_sell : Room := { frames := 1, cells := 0, slots := 0, locals := 21 }
def mX0_sell : aw_M := (yX0_sell, cX0_sell, 3, none, rX0_sell)
theorem mv_X0_sell : aw_mV mX0_sell 2 := ⟨⟨aw_in 300 (by decide +kernel) rfl, aw_in 2 (by decide +kernel) rfl, rfl, rfl, by decide, by decide, by decide +kernel⟩, aw_in 299 (by decide +kernel) rfl, aw_inS 4 (by decide +kernel) rfl⟩
def rX0_throwPot : Room := { frames := 3, cells := 0, slots := 0, locals := 67 }
def mX0_throwPot : aw_M := (yX0_throwPot, cX0_throwPot, 6, none, rX0_throwPot)
theorem mv_X0_throwPot : aw_mV mX0_throwPot 2 := ⟨⟨aw_in 282 (by decide +kernel) rfl, aw_in 2 (by decide +kernel) rfl, rfl, rfl, by decide, by decide, by decide +kernel⟩, aw_in 281 (by decide +kernel) rfl, aw_inS 1 (by decide +kernel) rfl⟩
def rX0_ageAll : Room := { frames := 1, cells := 0, slots := 0, locals := 21 }
def mX0_ageAll : aw_M := (yX0_ageAll, cX0_ageAll, 2, none, rX0_ageAll)
theorem mv_X0_ageAll : aw_mV mX0_ageAll 0 := ⟨⟨aw_in 307 (by decide +kernel) rfl, aw_in 2 (by decide +kernel) rfl, rfl, rfl, by decide, by decide, by decide +kernel⟩, aw_in 306 (by decide +kernel) rfl, aw_inS 5 (by decide +kernel) rfl⟩
def rX0_passDays : Room := { frames := 4, cells := 0, slots := 0, locals := 92 }
def mX0_passDays : aw_M := (yX0_passDays, cX0_passDays, 4, none, rX0_passDays)
theorem mv_X0_passDays : aw_mV mX0_passDays 1 := ⟨⟨aw_in 277 (by decide +kernel) rfl, aw_in 2 (by decide +kernel) rfl, rfl, rfl, by decide, by decide, by decide +kernel⟩, aw_in 275 (by decide +kernel) rfl, aw_in 276 (by decide +kernel) rfl⟩
def rX0_throwsToday : Room := { frames := 2, cells := 0, slots := 0, locals := 43 }
def mX0_throwsToday : aw_M := (yX0_throwsToday, cX0_throwsToday, 2, some .boolean, rX0_throwsToday)
theorem mv_X0_throwsToday : aw_mV mX0_throwsToday 0 := ⟨⟨aw_in 323 (by decide +kernel) rfl, aw_in 2 (by decide +kernel) rfl, rfl, rfl, by decide, by decide, by decide +kernel⟩, aw_in 321 (by decide +kernel) rfl, aw_in 322 (by decide +kernel) rfl⟩
def rX0_sumOf : Room := { frames := 0, cells := 0, slots := 0, locals := 0 }
def mX0_sumOf : aw_M := (yX0_sumOf, cX0_sumOf, 4, some .int, rX0_sumOf)
theorem mv_X0_sumOf : aw_mV mX0_sumOf 1 := ⟨⟨aw_in 315 (by decide +kernel) rfl, aw_in 2 (by decide +kernel) rfl, rfl, rfl, by decide, by decide, by decide +kernel⟩, aw_in 313 (by decide +kernel) rfl, aw_in 314 (by decide +kernel) rfl⟩
def rX0_widestTwo : Room := { frames := 2, cells := 0, slots := 0, locals := 43 }
def mX0_widestTwo : aw_M := (yX0_widestTwo, cX0_widestTwo, 5, some .int, rX0_widestTwo)
theorem mv_X0_widestTwo : aw_mV mX0_widestTwo 0 := ⟨⟨aw_in 319 (by decide +kernel) rfl, aw_in 2 (by decide +kernel) rfl, rfl, rfl, by decide, by decide, by decide +kernel⟩, aw_in 317 (by decide +kernel) rfl, aw_in 318 (by decide +kernel) rfl⟩
def rX0_reconcileSet : Room := { frames := 2, cells := 0, slots := 0, locals := 44 }
def mX0_reconcileSet : aw_M := (yX0_reconcileSet, cX0_reconcileSet, 4, none, rX0_reconcileSet)
theorem mv_X0_reconcileSet : aw_mV mX0_reconcileSet 1 := ⟨⟨aw_in 388 (by decide +kernel) rfl, aw_in 2 (by decide +kernel) rfl, rfl, rfl, by decide, by decide, by decide +kernel⟩, aw_in 386 (by decide +kernel) rfl, aw_in 387 (by decide +kernel) rfl⟩
def rX0_draw : Room := { frames := 0, cells := 0, slots := 0, locals := 0 }
def mX0_draw : aw_M := (yX0_draw, cX0_draw, 1, some .int, rX0_draw)
theorem mv_X0_draw : aw_mV mX0_draw 0 := ⟨⟨aw_in 424 (by decide +kernel) rfl, aw_in 2 (by decide +kernel) rfl, rfl, rfl, by decide, by decide, by decide +kernel⟩, aw_in 423 (by decide +kernel) rfl, aw_inS 10 (by decide +kernel) rfl⟩
def rX0_drawMarket : Room := { frames := 1, cells := 0, slots := 0, locals := 20 }
def mX0_drawMarket : aw_M := (yX0_drawMarket, cX0_drawMarket, 3, none, rX0_drawMarket)
theorem mv_X0_drawMarket : aw_mV mX0_drawMarket 0 := ⟨⟨aw_in 420 (by decide +kernel) rfl, aw_in 2 (by decide +kernel) rfl, rfl, rfl, by decide, by decide, by decide +kernel⟩, aw_in 418 (by decide +kernel) rfl, aw_in 419 (by decide +kernel) rfl⟩
def rX0_spotsHeld : Room := { frames := 0, cells := 0, slots := 0, locals := 0 }
def mX0_spotsHeld : aw_M := (yX0_spotsHeld, cX0_spotsHeld, 3, some .int, rX0_spotsHeld)
theorem mv_X0_spotsHeld : aw_mV mX0_spotsHeld 0 := ⟨⟨aw_in 685 (by decide +kernel) rfl, aw_in 2 (by decide +kernel) rfl, rfl, rfl, by decide, by decide, by decide +kernel⟩, aw_in 683 (by decide +kernel) rfl, aw_in 684 (by decide +kernel) rfl⟩
def rX1_hasFault : Room := { frames := 0, cells := 0, slots := 0, locals := 0 }
def mX1_hasFault : aw_M := (yX1_hasFault, cX1_hasFault, 1, some .boolean, rX1_hasFault)
theorem mv_X1_hasFault : aw_mV mX1_hasFault 0 := ⟨⟨aw_in 565 (by decide +kernel) rfl, aw_in 5 (by decide +kernel) rfl, rfl, rfl, by decide, by decide, by decide +kernel⟩, aw_in 563 (by decide +kernel) rfl, aw_in 564 (by decide +kernel) rfl⟩
def rX1_isLetter : Room := { frames := 0, cells := 0, slots := 0, locals := 0 }
def mX1_isLetter : aw_M := (yX1_isLetter, cX1_isLetter, 2, some .boolean, rX1_isLetter)
theorem mv_X1_isLetter : aw_mV mX1_isLetter 1 := ⟨⟨aw_in 472 (by decide +kernel) rfl, aw_in 5 (by decide +kernel) rfl, rfl, rfl, by decide, by decide, by decide +kernel⟩, aw_in 471 (by decide +kernel) rfl, aw_inS 12 (by decide +kernel) rfl⟩
def rX1_isDigit : Room := { frames := 0, cells := 0, slots := 0, locals := 0 }
def mX1_isDigit : aw_M := (yX1_isDigit, cX1_isDigit, 2, some .boolean, rX1_isDigit)
theorem mv_X1_isDigit : aw_mV mX1_isDigit 1 := ⟨⟨aw_in 476 (by decide +kernel) rfl, aw_in 5 (by decide +kernel) rfl, rfl, rfl, by decide, by decide, by decide +kernel⟩, aw_in 475 (by decide +kernel) rfl, aw_inS 13 (by decide +kernel) rfl⟩
def rX1_goesOnAt : Room := { frames := 1, cells := 0, slots := 0, locals := 21 }
def mX1_goesOnAt : aw_M := (yX1_goesOnAt, cX1_goesOnAt, 2, some .boolean, rX1_goesOnAt)
theorem mv_X1_goesOnAt : aw_mV mX1_goesOnAt 1 := ⟨⟨aw_in 468 (by decide +kernel) rfl, aw_in 5 (by decide +kernel) rfl, rfl, rfl, by decide, by decide, by decide +kernel⟩, aw_in 467 (by decide +kernel) rfl, aw_inS 11 (by decide +kernel) rfl⟩
def rX1_numberAt : Room := { frames := 1, cells := 0, slots := 0, locals := 21 }
def mX1_numberAt : aw_M := (yX1_numberAt, cX1_numberAt, 4, some .int, rX1_numberAt)
theorem mv_X1_numberAt : aw_mV mX1_numberAt 1 := ⟨⟨aw_in 484 (by decide +kernel) rfl, aw_in 5 (by decide +kernel) rfl, rfl, rfl, by decide, by decide, by decide +kernel⟩, aw_in 483 (by decide +kernel) rfl, aw_inS 15 (by decide +kernel) rfl⟩
def rX1_nameOf : Room := { frames := 0, cells := 0, slots := 0, locals := 0 }
def mX1_nameOf : aw_M := (yX1_nameOf, cX1_nameOf, 1, some (.object "java/lang/String"), rX1_nameOf)
theorem ms_X1_nameOf : aw_mS mX1_nameOf 1 := ⟨⟨aw_in 492 (by decide +kernel) rfl, aw_in 5 (by decide +kernel) rfl, rfl, rfl, by decide, by decide, by decide +kernel⟩, aw_in 491 (by decide +kernel) rfl⟩
def rJ0_coder_7d493 : Room := { frames := 0, cells := 0, slots := 0, locals := 0 }
def mJ0_coder_7d493 : aw_M := (yJ0_coder_7d493, cJ0_coder_7d493, 1, some .byte, rJ0_coder_7d493)
theorem mv_J0_coder_7d493 : aw_mV mJ0_coder_7d493 0 := ⟨⟨aw_in 517 (by decide +kernel) rfl, aw_in 11 (by decide +kernel) rfl, rfl, rfl, by decide, by decide, by decide +kernel⟩, aw_in 515 (by decide +kernel) rfl, aw_in 516 (by decide +kernel) rfl⟩
def rJ0_length_8abf5 : Room := { frames := 1, cells := 0, slots := 0, locals := 20 }
def mJ0_length_8abf5 : aw_M := (yJ0_length_8abf5, cJ0_length_8abf5, 1, some .int, rJ0_length_8abf5)
theorem mv_J0_length_8abf5 : aw_mV mJ0_length_8abf5 0 := ⟨⟨aw_in 513 (by decide +kernel) rfl, aw_in 11 (by decide +kernel) rfl, rfl, rfl, by decide, by decide, by decide +kernel⟩, aw_in 511 (by decide +kernel) rfl, aw_in 512 (by decide +kernel) rfl⟩
def rJ0_isLatin1_aae02 : Room := { frames := 0, cells := 0, slots := 0, locals := 0 }
def mJ0_isLatin1_aae02 : aw_M := (yJ0_isLatin1_aae02, cJ0_isLatin1_aae02, 1, some .boolean, rJ0_isLatin1_aae02)
theorem mv_J0_isLatin1_aae02 : aw_mV mJ0_isLatin1_aae02 0 := ⟨⟨aw_in 527 (by decide +kernel) rfl, aw_in 11 (by decide +kernel) rfl, rfl, rfl, by decide, by decide, by decide +kernel⟩, aw_in 525 (by decide +kernel) rfl, aw_in 526 (by decide +kernel) rfl⟩
def rJ3_checkIndex_8e157 : Room := { frames := 0, cells := 0, slots := 0, locals := 0 }
def mJ3_checkIndex_8e157 : aw_M := (yJ3_checkIndex_8e157, cJ3_checkIndex_8e157, 3, some .int, rJ3_checkIndex_8e157)
theorem ms_J3_checkIndex_8e157 : aw_mS mJ3_checkIndex_8e157 3 := ⟨⟨aw_in 538 (by decide +kernel) rfl, aw_in 13 (by decide +kernel) rfl, rfl, rfl, by decide, by decide, by decide +kernel⟩, aw_in 537 (by decide +kernel) rfl⟩
def rJ0_checkIndex_df160 : Room := { frames := 1, cells := 0, slots := 0, locals := 22 }
def mJ0_checkIndex_df160 : aw_M := (yJ0_checkIndex_df160, cJ0_checkIndex_df160, 2, none, rJ0_checkIndex_df160)
theorem ms_J0_checkIndex_df160 : aw_mS mJ0_checkIndex_df160 2 := ⟨⟨aw_in 533 (by decide +kernel) rfl, aw_in 11 (by decide +kernel) rfl, rfl, rfl, by decide, by decide, by decide +kernel⟩, aw_in 532 (by decide +kernel) rfl⟩
def rJ1_charAt_3b067 : Room := { frames := 2, cells := 0, slots := 0, locals := 43 }
def mJ1_charAt_3b067 : aw_M := (yJ1_charAt_3b067, cJ1_charAt_3b067, 2, some .char, rJ1_charAt_3b067)
theorem ms_J1_charAt_3b067 : aw_mS mJ1_charAt_3b067 2 := ⟨⟨aw_in 530 (by decide +kernel) rfl, aw_in 12 (by decide +kernel) rfl, rfl, rfl, by decide, by decide, by decide +kernel⟩, aw_in 529 (by decide +kernel) rfl⟩
def rJ0_charAt_5068e : Room := { frames := 4, cells := 0, slots := 0, locals := 85 }
def mJ0_charAt_5068e : aw_M := (yJ0_charAt_5068e, cJ0_charAt_5068e, 2, some .char, rJ0_charAt_5068e)
theorem mv_J0_charAt_5068e : aw_mV mJ0_charAt_5068e 1 := ⟨⟨aw_in 523 (by decide +kernel) rfl, aw_in 11 (by decide +kernel) rfl, rfl, rfl, by decide, by decide, by decide +kernel⟩, aw_in 521 (by decide +kernel) rfl, aw_in 522 (by decide +kernel) rfl⟩
def rX1_isWordAt : Room := { frames := 5, cells := 0, slots := 0, locals := 106 }
def mX1_isWordAt : aw_M := (yX1_isWordAt, cX1_isWordAt, 5, some .boolean, rX1_isWordAt)
theorem mv_X1_isWordAt : aw_mV mX1_isWordAt 2 := ⟨⟨aw_in 509 (by decide +kernel) rfl, aw_in 5 (by decide +kernel) rfl, rfl, rfl, by decide, by decide, by decide +kernel⟩, aw_in 508 (by decide +kernel) rfl, aw_inS 17 (by decide +kernel) rfl⟩
def rX1_wordAt : Room := { frames := 6, cells := 0, slots := 0, locals := 130 }
def mX1_wordAt : aw_M := (yX1_wordAt, cX1_wordAt, 3, some .int, rX1_wordAt)
theorem mv_X1_wordAt : aw_mV mX1_wordAt 1 := ⟨⟨aw_in 489 (by decide +kernel) rfl, aw_in 5 (by decide +kernel) rfl, rfl, rfl, by decide, by decide, by decide +kernel⟩, aw_in 488 (by decide +kernel) rfl, aw_inS 16 (by decide +kernel) rfl⟩
def rX1_tokenAt : Room := { frames := 7, cells := 0, slots := 0, locals := 152 }
def mX1_tokenAt : aw_M := (yX1_tokenAt, cX1_tokenAt, 2, some .int, rX1_tokenAt)
theorem mv_X1_tokenAt : aw_mV mX1_tokenAt 1 := ⟨⟨aw_in 480 (by decide +kernel) rfl, aw_in 5 (by decide +kernel) rfl, rfl, rfl, by decide, by decide, by decide +kernel⟩, aw_in 479 (by decide +kernel) rfl, aw_inS 14 (by decide +kernel) rfl⟩
def rX1_splitTape : Room := { frames := 8, cells := 0, slots := 0, locals := 173 }
def mX1_splitTape : aw_M := (yX1_splitTape, cX1_splitTape, 3, none, rX1_splitTape)
theorem mv_X1_splitTape : aw_mV mX1_splitTape 0 := ⟨⟨aw_in 464 (by decide +kernel) rfl, aw_in 5 (by decide +kernel) rfl, rfl, rfl, by decide, by decide, by decide +kernel⟩, aw_in 462 (by decide +kernel) rfl, aw_in 463 (by decide +kernel) rfl⟩
def rX4_within : Room := { frames := 0, cells := 0, slots := 0, locals := 0 }
def mX4_within : aw_M := (yX4_within, cX4_within, 3, some .boolean, rX4_within)
theorem ms_X4_within : aw_mS mX4_within 3 := ⟨⟨aw_in 171 (by decide +kernel) rfl, aw_in 1 (by decide +kernel) rfl, rfl, rfl, by decide, by decide, by decide +kernel⟩, aw_in 170 (by decide +kernel) rfl⟩
def rX1_refuse : Room := { frames := 0, cells := 0, slots := 0, locals := 0 }
def mX1_refuse : aw_M := (yX1_refuse, cX1_refuse, 1, none, rX1_refuse)
theorem mv_X1_refuse : aw_mV mX1_refuse 0 := ⟨⟨aw_in 579 (by decide +kernel) rfl, aw_in 5 (by decide +kernel) rfl, rfl, rfl, by decide, by decide, by decide +kernel⟩, aw_in 578 (by decide +kernel) rfl, aw_inS 20 (by decide +kernel) rfl⟩
def rX1_step : Room := { frames := 0, cells := 0, slots := 0, locals := 0 }
def mX1_step : aw_M := (yX1_step, cX1_step, 1, none, rX1_step)
theorem mv_X1_step : aw_mV mX1_step 0 := ⟨⟨aw_in 583 (by decide +kernel) rfl, aw_in 5 (by decide +kernel) rfl, rfl, rfl, by decide, by decide, by decide +kernel⟩, aw_in 582 (by decide +kernel) rfl, aw_inS 21 (by decide +kernel) rfl⟩
def rX1_readNumber : Room := { frames := 1, cells := 0, slots := 0, locals := 22 }
def mX1_readNumber : aw_M := (yX1_readNumber, cX1_readNumber, 4, some .int, rX1_readNumber)
theorem mv_X1_readNumber : aw_mV mX1_readNumber 2 := ⟨⟨aw_in 591 (by decide +kernel) rfl, aw_in 5 (by decide +kernel) rfl, rfl, rfl, by decide, by decide, by decide +kernel⟩, aw_in 590 (by decide +kernel) rfl, aw_inS 23 (by decide +kernel) rfl⟩
def rX1_readPerhaps : Room := { frames := 2, cells := 0, slots := 0, locals := 45 }
def mX1_readPerhaps : aw_M := (yX1_readPerhaps, cX1_readPerhaps, 3, some .int, rX1_readPerhaps)
theorem mv_X1_readPerhaps : aw_mV mX1_readPerhaps 2 := ⟨⟨aw_in 587 (by decide +kernel) rfl, aw_in 5 (by decide +kernel) rfl, rfl, rfl, by decide, by decide, by decide +kernel⟩, aw_in 586 (by decide +kernel) rfl, aw_inS 22 (by decide +kernel) rfl⟩
def rX1_readPotter : Room := { frames := 3, cells := 0, slots := 0, locals := 67 }
def mX1_readPotter : aw_M := (yX1_readPotter, cX1_readPotter, 5, none, rX1_readPotter)
theorem mv_X1_readPotter : aw_mV mX1_readPotter 1 := ⟨⟨aw_in 574 (by decide +kernel) rfl, aw_in 5 (by decide +kernel) rfl, rfl, rfl, by decide, by decide, by decide +kernel⟩, aw_in 573 (by decide +kernel) rfl, aw_inS 19 (by decide +kernel) rfl⟩
def rX1_readRift : Room := { frames := 2, cells := 0, slots := 0, locals := 45 }
def mX1_readRift : aw_M := (yX1_readRift, cX1_readRift, 4, none, rX1_readRift)
theorem mv_X1_readRift : aw_mV mX1_readRift 0 := ⟨⟨aw_in 596 (by decide +kernel) rfl, aw_in 5 (by decide +kernel) rfl, rfl, rfl, by decide, by decide, by decide +kernel⟩, aw_in 595 (by decide +kernel) rfl, aw_inS 24 (by decide +kernel) rfl⟩
def rX1_readPair : Room := { frames := 2, cells := 0, slots := 0, locals := 45 }
def mX1_readPair : aw_M := (yX1_readPair, cX1_readPair, 4, none, rX1_readPair)
theorem mv_X1_readPair : aw_mV mX1_readPair 0 := ⟨⟨aw_in 601 (by decide +kernel) rfl, aw_in 5 (by decide +kernel) rfl, rfl, rfl, by decide, by decide, by decide +kernel⟩, aw_in 600 (by decide +kernel) rfl, aw_inS 25 (by decide +kernel) rfl⟩
def rX1_readClay : Room := { frames := 2, cells := 0, slots := 0, locals := 45 }
def mX1_readClay : aw_M := (yX1_readClay, cX1_readClay, 2, none, rX1_readClay)
theorem mv_X1_readClay : aw_mV mX1_readClay 0 := ⟨⟨aw_in 605 (by decide +kernel) rfl, aw_in 5 (by decide +kernel) rfl, rfl, rfl, by decide, by decide, by decide +kernel⟩, aw_in 604 (by decide +kernel) rfl, aw_inS 26 (by decide +kernel) rfl⟩
def rX1_readItem : Room := { frames := 4, cells := 0, slots := 0, locals := 91 }
def mX1_readItem : aw_M := (yX1_readItem, cX1_readItem, 2, none, rX1_readItem)
theorem mv_X1_readItem : aw_mV mX1_readItem 0 := ⟨⟨aw_in 569 (by decide +kernel) rfl, aw_in 5 (by decide +kernel) rfl, rfl, rfl, by decide, by decide, by decide +kernel⟩, aw_in 568 (by decide +kernel) rfl, aw_inS 18 (by decide +kernel) rfl⟩
def rX1_take : Room := { frames := 1, cells := 0, slots := 0, locals := 20 }
def mX1_take : aw_M := (yX1_take, cX1_take, 2, none, rX1_take)
theorem mv_X1_take : aw_mV mX1_take 1 := ⟨⟨aw_in 609 (by decide +kernel) rfl, aw_in 5 (by decide +kernel) rfl, rfl, rfl, by decide, by decide, by decide +kernel⟩, aw_in 608 (by decide +kernel) rfl, aw_inS 27 (by decide +kernel) rfl⟩
def rX1_readItems : Room := { frames := 5, cells := 0, slots := 0, locals := 112 }
def mX1_readItems : aw_M := (yX1_readItems, cX1_readItems, 2, some .int, rX1_readItems)
theorem mv_X1_readItems : aw_mV mX1_readItems 0 := ⟨⟨aw_in 561 (by decide +kernel) rfl, aw_in 5 (by decide +kernel) rfl, rfl, rfl, by decide, by decide, by decide +kernel⟩, aw_in 559 (by decide +kernel) rfl, aw_in 560 (by decide +kernel) rfl⟩
def rX2_isMissing : Room := { frames := 0, cells := 0, slots := 0, locals := 0 }
def mX2_isMissing : aw_M := (yX2_isMissing, cX2_isMissing, 2, some .boolean, rX2_isMissing)
theorem mv_X2_isMissing : aw_mV mX2_isMissing 1 := ⟨⟨aw_in 396 (by decide +kernel) rfl, aw_in 6 (by decide +kernel) rfl, rfl, rfl, by decide, by decide, by decide +kernel⟩, aw_in 394 (by decide +kernel) rfl, aw_in 395 (by decide +kernel) rfl⟩
def rX2_lay : Room := { frames := 0, cells := 0, slots := 0, locals := 0 }
def mX2_lay : aw_M := (yX2_lay, cX2_lay, 5, none, rX2_lay)
theorem mv_X2_lay : aw_mV mX2_lay 3 := ⟨⟨aw_in 632 (by decide +kernel) rfl, aw_in 6 (by decide +kernel) rfl, rfl, rfl, by decide, by decide, by decide +kernel⟩, aw_in 630 (by decide +kernel) rfl, aw_in 631 (by decide +kernel) rfl⟩
def rX2_get : Room := { frames := 0, cells := 0, slots := 0, locals := 0 }
def mX2_get : aw_M := (yX2_get, cX2_get, 3, some .int, rX2_get)
theorem mv_X2_get : aw_mV mX2_get 2 := ⟨⟨aw_in 404 (by decide +kernel) rfl, aw_in 6 (by decide +kernel) rfl, rfl, rfl, by decide, by decide, by decide +kernel⟩, aw_in 402 (by decide +kernel) rfl, aw_in 403 (by decide +kernel) rfl⟩
def rX2_lowest : Room := { frames := 0, cells := 0, slots := 0, locals := 0 }
def mX2_lowest : aw_M := (yX2_lowest, cX2_lowest, 2, some .int, rX2_lowest)
theorem ms_X2_lowest : aw_mS mX2_lowest 2 := ⟨⟨aw_in 643 (by decide +kernel) rfl, aw_in 6 (by decide +kernel) rfl, rfl, rfl, by decide, by decide, by decide +kernel⟩, aw_in 642 (by decide +kernel) rfl⟩
def rX2_put : Room := { frames := 1, cells := 0, slots := 0, locals := 21 }
def mX2_put : aw_M := (yX2_put, cX2_put, 4, none, rX2_put)
theorem mv_X2_put : aw_mV mX2_put 3 := ⟨⟨aw_in 640 (by decide +kernel) rfl, aw_in 6 (by decide +kernel) rfl, rfl, rfl, by decide, by decide, by decide +kernel⟩, aw_in 638 (by decide +kernel) rfl, aw_in 639 (by decide +kernel) rfl⟩
def rX2_hasRun : Room := { frames := 0, cells := 0, slots := 0, locals := 0 }
def mX2_hasRun : aw_M := (yX2_hasRun, cX2_hasRun, 4, some .boolean, rX2_hasRun)
theorem mv_X2_hasRun : aw_mV mX2_hasRun 3 := ⟨⟨aw_in 651 (by decide +kernel) rfl, aw_in 6 (by decide +kernel) rfl, rfl, rfl, by decide, by decide, by decide +kernel⟩, aw_in 649 (by decide +kernel) rfl, aw_in 650 (by decide +kernel) rfl⟩
def rX2_move : Room := { frames := 1, cells := 0, slots := 0, locals := 26 }
def mX2_move : aw_M := (yX2_move, cX2_move, 6, none, rX2_move)
theorem mv_X2_move : aw_mV mX2_move 5 := ⟨⟨aw_in 655 (by decide +kernel) rfl, aw_in 6 (by decide +kernel) rfl, rfl, rfl, by decide, by decide, by decide +kernel⟩, aw_in 653 (by decide +kernel) rfl, aw_in 654 (by decide +kernel) rfl⟩
def rX3_append : Room := { frames := 0, cells := 0, slots := 0, locals := 0 }
def mX3_append : aw_M := (yX3_append, cX3_append, 2, none, rX3_append)
theorem mv_X3_append : aw_mV mX3_append 1 := ⟨⟨aw_in 452 (by decide +kernel) rfl, aw_in 4 (by decide +kernel) rfl, rfl, rfl, by decide, by decide, by decide +kernel⟩, aw_in 450 (by decide +kernel) rfl, aw_in 451 (by decide +kernel) rfl⟩
def rJ6_bitCount_0f7a4 : Room := { frames := 0, cells := 0, slots := 0, locals := 0 }
def mJ6_bitCount_0f7a4 : aw_M := (yJ6_bitCount_0f7a4, cJ6_bitCount_0f7a4, 1, some .int, rJ6_bitCount_0f7a4)
theorem ms_J6_bitCount_0f7a4 : aw_mS mJ6_bitCount_0f7a4 1 := ⟨⟨aw_in 377 (by decide +kernel) rfl, aw_in 10 (by decide +kernel) rfl, rfl, rfl, by decide, by decide, by decide +kernel⟩, aw_in 376 (by decide +kernel) rfl⟩
def rX4_found : Room := { frames := 0, cells := 0, slots := 0, locals := 0 }
def mX4_found : aw_M := (yX4_found, cX4_found, 2, some .int, rX4_found)
theorem mv_X4_found : aw_mV mX4_found 1 := ⟨⟨aw_in 175 (by decide +kernel) rfl, aw_in 1 (by decide +kernel) rfl, rfl, rfl, by decide, by decide, by decide +kernel⟩, aw_in 174 (by decide +kernel) rfl, aw_inS 0 (by decide +kernel) rfl⟩
def rX4_clay : Room := { frames := 1, cells := 0, slots := 0, locals := 22 }
def mX4_clay : aw_M := (yX4_clay, cX4_clay, 3, some .int, rX4_clay)
theorem mv_X4_clay : aw_mV mX4_clay 1 := ⟨⟨aw_in 168 (by decide +kernel) rfl, aw_in 1 (by decide +kernel) rfl, rfl, rfl, by decide, by decide, by decide +kernel⟩, aw_in 166 (by decide +kernel) rfl, aw_in 167 (by decide +kernel) rfl⟩
def rX4_pair : Room := { frames := 1, cells := 0, slots := 0, locals := 22 }
def mX4_pair : aw_M := (yX4_pair, cX4_pair, 5, some .int, rX4_pair)
theorem mv_X4_pair : aw_mV mX4_pair 3 := ⟨⟨aw_in 180 (by decide +kernel) rfl, aw_in 1 (by decide +kernel) rfl, rfl, rfl, by decide, by decide, by decide +kernel⟩, aw_in 178 (by decide +kernel) rfl, aw_in 179 (by decide +kernel) rfl⟩
def rX4_listed : Room := { frames := 1, cells := 0, slots := 0, locals := 22 }
def mX4_listed : aw_M := (yX4_listed, cX4_listed, 2, some .int, rX4_listed)
theorem mv_X4_listed : aw_mV mX4_listed 1 := ⟨⟨aw_in 184 (by decide +kernel) rfl, aw_in 1 (by decide +kernel) rfl, rfl, rfl, by decide, by decide, by decide +kernel⟩, aw_in 182 (by decide +kernel) rfl, aw_in 183 (by decide +kernel) rfl⟩
def rX4_potter : Room := { frames := 1, cells := 0, slots := 0, locals := 25 }
def mX4_potter : aw_M := (yX4_potter, cX4_potter, 3, some .int, rX4_potter)
theorem mv_X4_potter : aw_mV mX4_potter 2 := ⟨⟨aw_in 188 (by decide +kernel) rfl, aw_in 1 (by decide +kernel) rfl, rfl, rfl, by decide, by decide, by decide +kernel⟩, aw_in 186 (by decide +kernel) rfl, aw_in 187 (by decide +kernel) rfl⟩
def rX4_of : Room := { frames := 3, cells := 0, slots := 0, locals := 67 }
def mX4_of : aw_M := (yX4_of, cX4_of, 3, some .int, rX4_of)
theorem mv_X4_of : aw_mV mX4_of 2 := ⟨⟨aw_in 200 (by decide +kernel) rfl, aw_in 1 (by decide +kernel) rfl, rfl, rfl, by decide, by decide, by decide +kernel⟩, aw_in 198 (by decide +kernel) rfl, aw_in 199 (by decide +kernel) rfl⟩
def rX4_change : Room := { frames := 1, cells := 0, slots := 0, locals := 22 }
def mX4_change : aw_M := (yX4_change, cX4_change, 6, some .int, rX4_change)
theorem mv_X4_change : aw_mV mX4_change 3 := ⟨⟨aw_in 227 (by decide +kernel) rfl, aw_in 1 (by decide +kernel) rfl, rfl, rfl, by decide, by decide, by decide +kernel⟩, aw_in 225 (by decide +kernel) rfl, aw_in 226 (by decide +kernel) rfl⟩
def rX4_rift : Room := { frames := 2, cells := 0, slots := 0, locals := 44 }
def mX4_rift : aw_M := (yX4_rift, cX4_rift, 5, some .int, rX4_rift)
theorem mv_X4_rift : aw_mV mX4_rift 3 := ⟨⟨aw_in 233 (by decide +kernel) rfl, aw_in 1 (by decide +kernel) rfl, rfl, rfl, by decide, by decide, by decide +kernel⟩, aw_in 231 (by decide +kernel) rfl, aw_in 232 (by decide +kernel) rfl⟩
def rX4_two : Room := { frames := 3, cells := 0, slots := 0, locals := 67 }
def mX4_two : aw_M := (yX4_two, cX4_two, 4, some .int, rX4_two)
theorem mv_X4_two : aw_mV mX4_two 3 := ⟨⟨aw_in 253 (by decide +kernel) rfl, aw_in 1 (by decide +kernel) rfl, rfl, rfl, by decide, by decide, by decide +kernel⟩, aw_in 251 (by decide +kernel) rfl, aw_in 252 (by decide +kernel) rfl⟩
def rX4_go : Room := { frames := 5, cells := 0, slots := 0, locals := 115 }
def mX4_go : aw_M := (yX4_go, cX4_go, 2, some .int, rX4_go)
theorem mv_X4_go : aw_mV mX4_go 1 := ⟨⟨aw_in 272 (by decide +kernel) rfl, aw_in 1 (by decide +kernel) rfl, rfl, rfl, by decide, by decide, by decide +kernel⟩, aw_in 270 (by decide +kernel) rfl, aw_in 271 (by decide +kernel) rfl⟩
def rX4_now : Room := { frames := 3, cells := 0, slots := 0, locals := 67 }
def mX4_now : aw_M := (yX4_now, cX4_now, 2, some .int, rX4_now)
theorem mv_X4_now : aw_mV mX4_now 1 := ⟨⟨aw_in 311 (by decide +kernel) rfl, aw_in 1 (by decide +kernel) rfl, rfl, rfl, by decide, by decide, by decide +kernel⟩, aw_in 309 (by decide +kernel) rfl, aw_in 310 (by decide +kernel) rfl⟩
def rX4_ahead : Room := { frames := 5, cells := 0, slots := 0, locals := 115 }
def mX4_ahead : aw_M := (yX4_ahead, cX4_ahead, 5, some .int, rX4_ahead)
theorem mv_X4_ahead : aw_mV mX4_ahead 3 := ⟨⟨aw_in 327 (by decide +kernel) rfl, aw_in 1 (by decide +kernel) rfl, rfl, rfl, by decide, by decide, by decide +kernel⟩, aw_in 325 (by decide +kernel) rfl, aw_in 326 (by decide +kernel) rfl⟩
def rX4_terms : Room := { frames := 5, cells := 0, slots := 0, locals := 115 }
def mX4_terms : aw_M := (yX4_terms, cX4_terms, 4, some .int, rX4_terms)
theorem mv_X4_terms : aw_mV mX4_terms 3 := ⟨⟨aw_in 338 (by decide +kernel) rfl, aw_in 1 (by decide +kernel) rfl, rfl, rfl, by decide, by decide, by decide +kernel⟩, aw_in 336 (by decide +kernel) rfl, aw_in 337 (by decide +kernel) rfl⟩
def rX4_next : Room := { frames := 5, cells := 0, slots := 0, locals := 115 }
def mX4_next : aw_M := (yX4_next, cX4_next, 4, some .int, rX4_next)
theorem mv_X4_next : aw_mV mX4_next 1 := ⟨⟨aw_in 342 (by decide +kernel) rfl, aw_in 1 (by decide +kernel) rfl, rfl, rfl, by decide, by decide, by decide +kernel⟩, aw_in 340 (by decide +kernel) rfl, aw_in 341 (by decide +kernel) rfl⟩
def rX4_peace : Room := { frames := 5, cells := 0, slots := 0, locals := 115 }
def mX4_peace : aw_M := (yX4_peace, cX4_peace, 5, some .int, rX4_peace)
theorem mv_X4_peace : aw_mV mX4_peace 3 := ⟨⟨aw_in 346 (by decide +kernel) rfl, aw_in 1 (by decide +kernel) rfl, rfl, rfl, by decide, by decide, by decide +kernel⟩, aw_in 344 (by decide +kernel) rfl, aw_in 345 (by decide +kernel) rfl⟩
def rX4_when : Room := { frames := 5, cells := 0, slots := 0, locals := 115 }
def mX4_when : aw_M := (yX4_when, cX4_when, 4, some .int, rX4_when)
theorem mv_X4_when : aw_mV mX4_when 2 := ⟨⟨aw_in 350 (by decide +kernel) rfl, aw_in 1 (by decide +kernel) rfl, rfl, rfl, by decide, by decide, by decide +kernel⟩, aw_in 348 (by decide +kernel) rfl, aw_in 349 (by decide +kernel) rfl⟩
def rX4_setWith : Room := { frames := 5, cells := 0, slots := 0, locals := 115 }
def mX4_setWith : aw_M := (yX4_setWith, cX4_setWith, 7, some .int, rX4_setWith)
theorem mv_X4_setWith : aw_mV mX4_setWith 3 := ⟨⟨aw_in 354 (by decide +kernel) rfl, aw_in 1 (by decide +kernel) rfl, rfl, rfl, by decide, by decide, by decide +kernel⟩, aw_in 352 (by decide +kernel) rfl, aw_in 353 (by decide +kernel) rfl⟩
def rX4_dearestTrait : Room := { frames := 5, cells := 0, slots := 0, locals := 115 }
def mX4_dearestTrait : aw_M := (yX4_dearestTrait, cX4_dearestTrait, 7, some .int, rX4_dearestTrait)
theorem mv_X4_dearestTrait : aw_mV mX4_dearestTrait 3 := ⟨⟨aw_in 362 (by decide +kernel) rfl, aw_in 1 (by decide +kernel) rfl, rfl, rfl, by decide, by decide, by decide +kernel⟩, aw_in 361 (by decide +kernel) rfl, aw_inS 6 (by decide +kernel) rfl⟩
def rX4_heatFor : Room := { frames := 6, cells := 0, slots := 0, locals := 141 }
def mX4_heatFor : aw_M := (yX4_heatFor, cX4_heatFor, 3, some .int, rX4_heatFor)
theorem mv_X4_heatFor : aw_mV mX4_heatFor 2 := ⟨⟨aw_in 358 (by decide +kernel) rfl, aw_in 1 (by decide +kernel) rfl, rfl, rfl, by decide, by decide, by decide +kernel⟩, aw_in 356 (by decide +kernel) rfl, aw_in 357 (by decide +kernel) rfl⟩
def rX4_kindFor : Room := { frames := 6, cells := 0, slots := 0, locals := 141 }
def mX4_kindFor : aw_M := (yX4_kindFor, cX4_kindFor, 3, some .int, rX4_kindFor)
theorem mv_X4_kindFor : aw_mV mX4_kindFor 2 := ⟨⟨aw_in 366 (by decide +kernel) rfl, aw_in 1 (by decide +kernel) rfl, rfl, rfl, by decide, by decide, by decide +kernel⟩, aw_in 364 (by decide +kernel) rfl, aw_in 365 (by decide +kernel) rfl⟩
def rX4_clayFor : Room := { frames := 5, cells := 0, slots := 0, locals := 115 }
def mX4_clayFor : aw_M := (yX4_clayFor, cX4_clayFor, 5, some .int, rX4_clayFor)
theorem mv_X4_clayFor : aw_mV mX4_clayFor 2 := ⟨⟨aw_in 370 (by decide +kernel) rfl, aw_in 1 (by decide +kernel) rfl, rfl, rfl, by decide, by decide, by decide +kernel⟩, aw_in 368 (by decide +kernel) rfl, aw_in 369 (by decide +kernel) rfl⟩
def rX4_keepsRound : Room := { frames := 5, cells := 0, slots := 0, locals := 115 }
def mX4_keepsRound : aw_M := (yX4_keepsRound, cX4_keepsRound, 3, some .boolean, rX4_keepsRound)
theorem mv_X4_keepsRound : aw_mV mX4_keepsRound 2 := ⟨⟨aw_in 384 (by decide +kernel) rfl, aw_in 1 (by decide +kernel) rfl, rfl, rfl, by decide, by decide, by decide +kernel⟩, aw_in 383 (by decide +kernel) rfl, aw_inS 7 (by decide +kernel) rfl⟩
def rX4_reconcile : Room := { frames := 6, cells := 0, slots := 0, locals := 137 }
def mX4_reconcile : aw_M := (yX4_reconcile, cX4_reconcile, 6, some .int, rX4_reconcile)
theorem mv_X4_reconcile : aw_mV mX4_reconcile 1 := ⟨⟨aw_in 374 (by decide +kernel) rfl, aw_in 1 (by decide +kernel) rfl, rfl, rfl, by decide, by decide, by decide +kernel⟩, aw_in 372 (by decide +kernel) rfl, aw_in 373 (by decide +kernel) rfl⟩
def rX4_trialRiftIsTold : Room := { frames := 5, cells := 0, slots := 0, locals := 115 }
def mX4_trialRiftIsTold : aw_M := (yX4_trialRiftIsTold, cX4_trialRiftIsTold, 6, some .boolean, rX4_trialRiftIsTold)
theorem mv_X4_trialRiftIsTold : aw_mV mX4_trialRiftIsTold 3 := ⟨⟨aw_in 400 (by decide +kernel) rfl, aw_in 1 (by decide +kernel) rfl, rfl, rfl, by decide, by decide, by decide +kernel⟩, aw_in 399 (by decide +kernel) rfl, aw_inS 8 (by decide +kernel) rfl⟩
def rX4_fits : Room := { frames := 6, cells := 0, slots := 0, locals := 140 }
def mX4_fits : aw_M := (yX4_fits, cX4_fits, 6, some .int, rX4_fits)
theorem mv_X4_fits : aw_mV mX4_fits 3 := ⟨⟨aw_in 392 (by decide +kernel) rfl, aw_in 1 (by decide +kernel) rfl, rfl, rfl, by decide, by decide, by decide +kernel⟩, aw_in 390 (by decide +kernel) rfl, aw_in 391 (by decide +kernel) rfl⟩
def rX4_trialHeatIsTold : Room := { frames := 5, cells := 0, slots := 0, locals := 115 }
def mX4_trialHeatIsTold : aw_M := (yX4_trialHeatIsTold, cX4_trialHeatIsTold, 5, some .boolean, rX4_trialHeatIsTold)
theorem mv_X4_trialHeatIsTold : aw_mV mX4_trialHeatIsTold 2 := ⟨⟨aw_in 412 (by decide +kernel) rfl, aw_in 1 (by decide +kernel) rfl, rfl, rfl, by decide, by decide, by decide +kernel⟩, aw_in 411 (by decide +kernel) rfl, aw_inS 9 (by decide +kernel) rfl⟩
def rX4_kinds : Room := { frames := 6, cells := 0, slots := 0, locals := 139 }
def mX4_kinds : aw_M := (yX4_kinds, cX4_kinds, 5, some .int, rX4_kinds)
theorem mv_X4_kinds : aw_mV mX4_kinds 2 := ⟨⟨aw_in 408 (by decide +kernel) rfl, aw_in 1 (by decide +kernel) rfl, rfl, rfl, by decide, by decide, by decide +kernel⟩, aw_in 406 (by decide +kernel) rfl, aw_in 407 (by decide +kernel) rfl⟩
def rX4_market : Room := { frames := 5, cells := 0, slots := 0, locals := 115 }
def mX4_market : aw_M := (yX4_market, cX4_market, 3, some .int, rX4_market)
theorem mv_X4_market : aw_mV mX4_market 1 := ⟨⟨aw_in 416 (by decide +kernel) rfl, aw_in 1 (by decide +kernel) rfl, rfl, rfl, by decide, by decide, by decide +kernel⟩, aw_in 414 (by decide +kernel) rfl, aw_in 415 (by decide +kernel) rfl⟩
def rX4_commonDivisor : Room := { frames := 1, cells := 0, slots := 0, locals := 21 }
def mX4_commonDivisor : aw_M := (yX4_commonDivisor, cX4_commonDivisor, 3, some .int, rX4_commonDivisor)
theorem ms_X4_commonDivisor : aw_mS mX4_commonDivisor 2 := ⟨⟨aw_in 436 (by decide +kernel) rfl, aw_in 1 (by decide +kernel) rfl, rfl, rfl, by decide, by decide, by decide +kernel⟩, aw_in 435 (by decide +kernel) rfl⟩
def rX4_power : Room := { frames := 0, cells := 0, slots := 0, locals := 0 }
def mX4_power : aw_M := (yX4_power, cX4_power, 5, some .long, rX4_power)
theorem ms_X4_power : aw_mS mX4_power 2 := ⟨⟨aw_in 440 (by decide +kernel) rfl, aw_in 1 (by decide +kernel) rfl, rfl, rfl, by decide, by decide, by decide +kernel⟩, aw_in 439 (by decide +kernel) rfl⟩
def rX4_odds : Room := { frames := 4, cells := 0, slots := 0, locals := 92 }
def mX4_odds : aw_M := (yX4_odds, cX4_odds, 8, some .long, rX4_odds)
theorem mv_X4_odds : aw_mV mX4_odds 4 := ⟨⟨aw_in 429 (by decide +kernel) rfl, aw_in 1 (by decide +kernel) rfl, rfl, rfl, by decide, by decide, by decide +kernel⟩, aw_in 427 (by decide +kernel) rfl, aw_in 428 (by decide +kernel) rfl⟩
def rX4_seed : Room := { frames := 0, cells := 0, slots := 0, locals := 0 }
def mX4_seed : aw_M := (yX4_seed, cX4_seed, 3, some .int, rX4_seed)
theorem mv_X4_seed : aw_mV mX4_seed 1 := ⟨⟨aw_in 444 (by decide +kernel) rfl, aw_in 1 (by decide +kernel) rfl, rfl, rfl, by decide, by decide, by decide +kernel⟩, aw_in 442 (by decide +kernel) rfl, aw_in 443 (by decide +kernel) rfl⟩
def rX4_feed : Room := { frames := 1, cells := 0, slots := 0, locals := 22 }
def mX4_feed : aw_M := (yX4_feed, cX4_feed, 4, some .int, rX4_feed)
theorem mv_X4_feed : aw_mV mX4_feed 2 := ⟨⟨aw_in 448 (by decide +kernel) rfl, aw_in 1 (by decide +kernel) rfl, rfl, rfl, by decide, by decide, by decide +kernel⟩, aw_in 446 (by decide +kernel) rfl, aw_in 447 (by decide +kernel) rfl⟩
def rX4_wipe : Room := { frames := 0, cells := 0, slots := 0, locals := 0 }
def mX4_wipe : aw_M := (yX4_wipe, cX4_wipe, 2, some .int, rX4_wipe)
theorem mv_X4_wipe : aw_mV mX4_wipe 0 := ⟨⟨aw_in 456 (by decide +kernel) rfl, aw_in 1 (by decide +kernel) rfl, rfl, rfl, by decide, by decide, by decide +kernel⟩, aw_in 454 (by decide +kernel) rfl, aw_in 455 (by decide +kernel) rfl⟩
def rX4_text : Room := { frames := 9, cells := 0, slots := 0, locals := 195 }
def mX4_text : aw_M := (yX4_text, cX4_text, 2, some .int, rX4_text)
theorem mv_X4_text : aw_mV mX4_text 0 := ⟨⟨aw_in 460 (by decide +kernel) rfl, aw_in 1 (by decide +kernel) rfl, rfl, rfl, by decide, by decide, by decide +kernel⟩, aw_in 458 (by decide +kernel) rfl, aw_in 459 (by decide +kernel) rfl⟩
def rX4_hold : Room := { frames := 1, cells := 0, slots := 0, locals := 22 }
def mX4_hold : aw_M := (yX4_hold, cX4_hold, 3, some .int, rX4_hold)
theorem mv_X4_hold : aw_mV mX4_hold 2 := ⟨⟨aw_in 615 (by decide +kernel) rfl, aw_in 1 (by decide +kernel) rfl, rfl, rfl, by decide, by decide, by decide +kernel⟩, aw_in 613 (by decide +kernel) rfl, aw_in 614 (by decide +kernel) rfl⟩
def rX4_isOrIsUnder : Room := { frames := 0, cells := 0, slots := 0, locals := 0 }
def mX4_isOrIsUnder : aw_M := (yX4_isOrIsUnder, cX4_isOrIsUnder, 4, some .boolean, rX4_isOrIsUnder)
theorem ms_X4_isOrIsUnder : aw_mS mX4_isOrIsUnder 2 := ⟨⟨aw_in 622 (by decide +kernel) rfl, aw_in 1 (by decide +kernel) rfl, rfl, rfl, by decide, by decide, by decide +kernel⟩, aw_in 621 (by decide +kernel) rfl⟩
def rX4_as : Room := { frames := 1, cells := 0, slots := 0, locals := 23 }
def mX4_as : aw_M := (yX4_as, cX4_as, 4, some .int, rX4_as)
theorem mv_X4_as : aw_mV mX4_as 2 := ⟨⟨aw_in 619 (by decide +kernel) rfl, aw_in 1 (by decide +kernel) rfl, rfl, rfl, by decide, by decide, by decide +kernel⟩, aw_in 617 (by decide +kernel) rfl, aw_in 618 (by decide +kernel) rfl⟩
def rX4_sheet : Room := { frames := 1, cells := 0, slots := 0, locals := 24 }
def mX4_sheet : aw_M := (yX4_sheet, cX4_sheet, 6, some .int, rX4_sheet)
theorem mv_X4_sheet : aw_mV mX4_sheet 3 := ⟨⟨aw_in 628 (by decide +kernel) rfl, aw_in 1 (by decide +kernel) rfl, rfl, rfl, by decide, by decide, by decide +kernel⟩, aw_in 626 (by decide +kernel) rfl, aw_in 627 (by decide +kernel) rfl⟩
def rX4_write : Room := { frames := 2, cells := 0, slots := 0, locals := 44 }
def mX4_write : aw_M := (yX4_write, cX4_write, 4, some .int, rX4_write)
theorem mv_X4_write : aw_mV mX4_write 3 := ⟨⟨aw_in 636 (by decide +kernel) rfl, aw_in 1 (by decide +kernel) rfl, rfl, rfl, by decide, by decide, by decide +kernel⟩, aw_in 634 (by decide +kernel) rfl, aw_in 635 (by decide +kernel) rfl⟩
def rX4_copy : Room := { frames := 2, cells := 0, slots := 0, locals := 51 }
def mX4_copy : aw_M := (yX4_copy, cX4_copy, 6, some .int, rX4_copy)
theorem mv_X4_copy : aw_mV mX4_copy 5 := ⟨⟨aw_in 647 (by decide +kernel) rfl, aw_in 1 (by decide +kernel) rfl, rfl, rfl, by decide, by decide, by decide +kernel⟩, aw_in 645 (by decide +kernel) rfl, aw_in 646 (by decide +kernel) rfl⟩
def rX4_load : Room := { frames := 1, cells := 0, slots := 0, locals := 22 }
def mX4_load : aw_M := (yX4_load, cX4_load, 5, some .int, rX4_load)
theorem mv_X4_load : aw_mV mX4_load 1 := ⟨⟨aw_in 660 (by decide +kernel) rfl, aw_in 1 (by decide +kernel) rfl, rfl, rfl, by decide, by decide, by decide +kernel⟩, aw_in 658 (by decide +kernel) rfl, aw_in 659 (by decide +kernel) rfl⟩
def rX4_judge : Room := { frames := 1, cells := 0, slots := 0, locals := 22 }
def mX4_judge : aw_M := (yX4_judge, cX4_judge, 3, some .int, rX4_judge)
theorem mv_X4_judge : aw_mV mX4_judge 1 := ⟨⟨aw_in 665 (by decide +kernel) rfl, aw_in 1 (by decide +kernel) rfl, rfl, rfl, by decide, by decide, by decide +kernel⟩, aw_in 663 (by decide +kernel) rfl, aw_in 664 (by decide +kernel) rfl⟩
def rX4_image : Room := { frames := 2, cells := 0, slots := 0, locals := 47 }
def mX4_image : aw_M := (yX4_image, cX4_image, 1, some .int, rX4_image)
theorem mv_X4_image : aw_mV mX4_image 0 := ⟨⟨aw_in 669 (by decide +kernel) rfl, aw_in 1 (by decide +kernel) rfl, rfl, rfl, by decide, by decide, by decide +kernel⟩, aw_in 667 (by decide +kernel) rfl, aw_in 668 (by decide +kernel) rfl⟩
def rX4_undo : Room := { frames := 2, cells := 0, slots := 0, locals := 47 }
def mX4_undo : aw_M := (yX4_undo, cX4_undo, 1, some .int, rX4_undo)
theorem mv_X4_undo : aw_mV mX4_undo 0 := ⟨⟨aw_in 673 (by decide +kernel) rfl, aw_in 1 (by decide +kernel) rfl, rfl, rfl, by decide, by decide, by decide +kernel⟩, aw_in 671 (by decide +kernel) rfl, aw_in 672 (by decide +kernel) rfl⟩
def rX4_tear : Room := { frames := 0, cells := 0, slots := 0, locals := 0 }
def mX4_tear : aw_M := (yX4_tear, cX4_tear, 2, some .int, rX4_tear)
theorem mv_X4_tear : aw_mV mX4_tear 0 := ⟨⟨aw_in 677 (by decide +kernel) rfl, aw_in 1 (by decide +kernel) rfl, rfl, rfl, by decide, by decide, by decide +kernel⟩, aw_in 675 (by decide +kernel) rfl, aw_in 676 (by decide +kernel) rfl⟩
def rX4_count : Room := { frames := 1, cells := 0, slots := 0, locals := 23 }
def mX4_count : aw_M := (yX4_count, cX4_count, 2, some .int, rX4_count)
theorem mv_X4_count : aw_mV mX4_count 1 := ⟨⟨aw_in 681 (by decide +kernel) rfl, aw_in 1 (by decide +kernel) rfl, rfl, rfl, by decide, by decide, by decide +kernel⟩, aw_in 679 (by decide +kernel) rfl, aw_in 680 (by decide +kernel) rfl⟩
def rX4_status : Room := { frames := 1, cells := 0, slots := 0, locals := 22 }
def mX4_status : aw_M := (yX4_status, cX4_status, 4, some .int, rX4_status)
theorem mv_X4_status : aw_mV mX4_status 1 := ⟨⟨aw_in 689 (by decide +kernel) rfl, aw_in 1 (by decide +kernel) rfl, rfl, rfl, by decide, by decide, by decide +kernel⟩, aw_in 687 (by decide +kernel) rfl, aw_in 688 (by decide +kernel) rfl⟩
def rX5_finds : Room := { frames := 0, cells := 0, slots := 0, locals := 0 }
def mX5_finds : aw_M := (yX5_finds, cX5_finds, 2, some .int, rX5_finds)
theorem mv_X5_finds : aw_mV mX5_finds 1 := ⟨⟨aw_in 763 (by decide +kernel) rfl, aw_in 7 (by decide +kernel) rfl, rfl, rfl, by decide, by decide, by decide +kernel⟩, aw_in 762 (by decide +kernel) rfl, aw_inS 29 (by decide +kernel) rfl⟩
def rX5_in : Room := { frames := 0, cells := 0, slots := 0, locals := 0 }
def mX5_in : aw_M := (yX5_in, cX5_in, 6, some .boolean, rX5_in)
theorem ms_X5_in : aw_mS mX5_in 3 := ⟨⟨aw_in 755 (by decide +kernel) rfl, aw_in 7 (by decide +kernel) rfl, rfl, rfl, by decide, by decide, by decide +kernel⟩, aw_in 754 (by decide +kernel) rfl⟩
def rX5_held : Room := { frames := 0, cells := 0, slots := 0, locals := 0 }
def mX5_held : aw_M := (yX5_held, cX5_held, 3, some .int, rX5_held)
theorem ms_X5_held : aw_mS mX5_held 3 := ⟨⟨aw_in 808 (by decide +kernel) rfl, aw_in 7 (by decide +kernel) rfl, rfl, rfl, by decide, by decide, by decide +kernel⟩, aw_in 807 (by decide +kernel) rfl⟩
def rX5_size : Room := { frames := 0, cells := 0, slots := 0, locals := 0 }
def mX5_size : aw_M := (yX5_size, cX5_size, 1, some .int, rX5_size)
theorem ms_X5_size : aw_mS mX5_size 1 := ⟨⟨aw_in 858 (by decide +kernel) rfl, aw_in 7 (by decide +kernel) rfl, rfl, rfl, by decide, by decide, by decide +kernel⟩, aw_in 857 (by decide +kernel) rfl⟩
def rX5_copies : Room := { frames := 0, cells := 0, slots := 0, locals := 0 }
def mX5_copies : aw_M := (yX5_copies, cX5_copies, 3, none, rX5_copies)
theorem ms_X5_copies : aw_mS mX5_copies 2 := ⟨⟨aw_in 912 (by decide +kernel) rfl, aw_in 7 (by decide +kernel) rfl, rfl, rfl, by decide, by decide, by decide +kernel⟩, aw_in 911 (by decide +kernel) rfl⟩
def rX5_isPotter : Room := { frames := 1, cells := 0, slots := 0, locals := 25 }
def mX5_isPotter : aw_M := (yX5_isPotter, cX5_isPotter, 2, some .boolean, rX5_isPotter)
theorem mv_X5_isPotter : aw_mV mX5_isPotter 1 := ⟨⟨aw_in 796 (by decide +kernel) rfl, aw_in 7 (by decide +kernel) rfl, rfl, rfl, by decide, by decide, by decide +kernel⟩, aw_in 795 (by decide +kernel) rfl, aw_inS 32 (by decide +kernel) rfl⟩
def rX5_areTwo : Room := { frames := 2, cells := 0, slots := 0, locals := 46 }
def mX5_areTwo : aw_M := (yX5_areTwo, cX5_areTwo, 3, some .boolean, rX5_areTwo)
theorem mv_X5_areTwo : aw_mV mX5_areTwo 2 := ⟨⟨aw_in 835 (by decide +kernel) rfl, aw_in 7 (by decide +kernel) rfl, rfl, rfl, by decide, by decide, by decide +kernel⟩, aw_in 834 (by decide +kernel) rfl, aw_inS 38 (by decide +kernel) rfl⟩
def rX5_its : Room := { frames := 0, cells := 0, slots := 0, locals := 0 }
def mX5_its : aw_M := (yX5_its, cX5_its, 3, some .int, rX5_its)
theorem mv_X5_its : aw_mV mX5_its 2 := ⟨⟨aw_in 805 (by decide +kernel) rfl, aw_in 7 (by decide +kernel) rfl, rfl, rfl, by decide, by decide, by decide +kernel⟩, aw_in 804 (by decide +kernel) rfl, aw_inS 34 (by decide +kernel) rfl⟩
def rX5_sets : Room := { frames := 0, cells := 0, slots := 0, locals := 0 }
def mX5_sets : aw_M := (yX5_sets, cX5_sets, 4, none, rX5_sets)
theorem mv_X5_sets : aw_mV mX5_sets 3 := ⟨⟨aw_in 788 (by decide +kernel) rfl, aw_in 7 (by decide +kernel) rfl, rfl, rfl, by decide, by decide, by decide +kernel⟩, aw_in 787 (by decide +kernel) rfl, aw_inS 31 (by decide +kernel) rfl⟩
def rX5_adds : Room := { frames := 1, cells := 0, slots := 0, locals := 22 }
def mX5_adds : aw_M := (yX5_adds, cX5_adds, 4, none, rX5_adds)
theorem mv_X5_adds : aw_mV mX5_adds 3 := ⟨⟨aw_in 888 (by decide +kernel) rfl, aw_in 7 (by decide +kernel) rfl, rfl, rfl, by decide, by decide, by decide +kernel⟩, aw_in 887 (by decide +kernel) rfl, aw_inS 47 (by decide +kernel) rfl⟩
def rX5_becomes : Room := { frames := 0, cells := 0, slots := 0, locals := 0 }
def mX5_becomes : aw_M := (yX5_becomes, cX5_becomes, 4, some .int, rX5_becomes)
theorem mv_X5_becomes : aw_mV mX5_becomes 2 := ⟨⟨aw_in 759 (by decide +kernel) rfl, aw_in 7 (by decide +kernel) rfl, rfl, rfl, by decide, by decide, by decide +kernel⟩, aw_in 758 (by decide +kernel) rfl, aw_inS 28 (by decide +kernel) rfl⟩
def rX5_ones : Room := { frames := 0, cells := 0, slots := 0, locals := 0 }
def mX5_ones : aw_M := (yX5_ones, cX5_ones, 3, some .int, rX5_ones)
theorem ms_X5_ones : aw_mS mX5_ones 1 := ⟨⟨aw_in 967 (by decide +kernel) rfl, aw_in 7 (by decide +kernel) rfl, rfl, rfl, by decide, by decide, by decide +kernel⟩, aw_in 966 (by decide +kernel) rfl⟩
def rX5_between : Room := { frames := 0, cells := 0, slots := 0, locals := 0 }
def mX5_between : aw_M := (yX5_between, cX5_between, 2, some .int, rX5_between)
theorem ms_X5_between : aw_mS mX5_between 2 := ⟨⟨aw_in 838 (by decide +kernel) rfl, aw_in 7 (by decide +kernel) rfl, rfl, rfl, by decide, by decide, by decide +kernel⟩, aw_in 837 (by decide +kernel) rfl⟩
def rX5_pushes : Room := { frames := 1, cells := 0, slots := 0, locals := 22 }
def mX5_pushes : aw_M := (yX5_pushes, cX5_pushes, 5, some .int, rX5_pushes)
theorem mv_X5_pushes : aw_mV mX5_pushes 1 := ⟨⟨aw_in 801 (by decide +kernel) rfl, aw_in 7 (by decide +kernel) rfl, rfl, rfl, by decide, by decide, by decide +kernel⟩, aw_in 800 (by decide +kernel) rfl, aw_inS 33 (by decide +kernel) rfl⟩
def rX5_says : Room := { frames := 1, cells := 0, slots := 0, locals := 22 }
def mX5_says : aw_M := (yX5_says, cX5_says, 3, some .int, rX5_says)
theorem mv_X5_says : aw_mV mX5_says 1 := ⟨⟨aw_in 812 (by decide +kernel) rfl, aw_in 7 (by decide +kernel) rfl, rfl, rfl, by decide, by decide, by decide +kernel⟩, aw_in 811 (by decide +kernel) rfl, aw_inS 35 (by decide +kernel) rfl⟩
def rX5_cools : Room := { frames := 1, cells := 0, slots := 0, locals := 22 }
def mX5_cools : aw_M := (yX5_cools, cX5_cools, 2, some .int, rX5_cools)
theorem mv_X5_cools : aw_mV mX5_cools 1 := ⟨⟨aw_in 816 (by decide +kernel) rfl, aw_in 7 (by decide +kernel) rfl, rfl, rfl, by decide, by decide, by decide +kernel⟩, aw_in 815 (by decide +kernel) rfl, aw_inS 36 (by decide +kernel) rfl⟩
def rX5_boils : Room := { frames := 1, cells := 0, slots := 0, locals := 22 }
def mX5_boils : aw_M := (yX5_boils, cX5_boils, 2, some .int, rX5_boils)
theorem mv_X5_boils : aw_mV mX5_boils 1 := ⟨⟨aw_in 820 (by decide +kernel) rfl, aw_in 7 (by decide +kernel) rfl, rfl, rfl, by decide, by decide, by decide +kernel⟩, aw_in 819 (by decide +kernel) rfl, aw_inS 37 (by decide +kernel) rfl⟩
def rX5_rises : Room := { frames := 1, cells := 0, slots := 0, locals := 21 }
def mX5_rises : aw_M := (yX5_rises, cX5_rises, 3, some .int, rX5_rises)
theorem mv_X5_rises : aw_mV mX5_rises 2 := ⟨⟨aw_in 847 (by decide +kernel) rfl, aw_in 7 (by decide +kernel) rfl, rfl, rfl, by decide, by decide, by decide +kernel⟩, aw_in 846 (by decide +kernel) rfl, aw_inS 39 (by decide +kernel) rfl⟩
def rX5_leans : Room := { frames := 2, cells := 0, slots := 0, locals := 46 }
def mX5_leans : aw_M := (yX5_leans, cX5_leans, 3, some .int, rX5_leans)
theorem mv_X5_leans : aw_mV mX5_leans 2 := ⟨⟨aw_in 851 (by decide +kernel) rfl, aw_in 7 (by decide +kernel) rfl, rfl, rfl, by decide, by decide, by decide +kernel⟩, aw_in 850 (by decide +kernel) rfl, aw_inS 40 (by decide +kernel) rfl⟩
def rX5_isFlop : Room := { frames := 3, cells := 0, slots := 0, locals := 68 }
def mX5_isFlop : aw_M := (yX5_isFlop, cX5_isFlop, 3, some .boolean, rX5_isFlop)
theorem mv_X5_isFlop : aw_mV mX5_isFlop 2 := ⟨⟨aw_in 855 (by decide +kernel) rfl, aw_in 7 (by decide +kernel) rfl, rfl, rfl, by decide, by decide, by decide +kernel⟩, aw_in 854 (by decide +kernel) rfl, aw_inS 41 (by decide +kernel) rfl⟩
def rX5_flops : Room := { frames := 2, cells := 0, slots := 0, locals := 45 }
def mX5_flops : aw_M := (yX5_flops, cX5_flops, 2, none, rX5_flops)
theorem mv_X5_flops : aw_mV mX5_flops 1 := ⟨⟨aw_in 884 (by decide +kernel) rfl, aw_in 7 (by decide +kernel) rfl, rfl, rfl, by decide, by decide, by decide +kernel⟩, aw_in 883 (by decide +kernel) rfl, aw_inS 46 (by decide +kernel) rfl⟩
def rX5_throwsOne : Room := { frames := 2, cells := 0, slots := 0, locals := 45 }
def mX5_throwsOne : aw_M := (yX5_throwsOne, cX5_throwsOne, 2, none, rX5_throwsOne)
theorem mv_X5_throwsOne : aw_mV mX5_throwsOne 1 := ⟨⟨aw_in 892 (by decide +kernel) rfl, aw_in 7 (by decide +kernel) rfl, rfl, rfl, by decide, by decide, by decide +kernel⟩, aw_in 891 (by decide +kernel) rfl, aw_inS 48 (by decide +kernel) rfl⟩
def rX5_pots : Room := { frames := 4, cells := 0, slots := 0, locals := 90 }
def mX5_pots : aw_M := (yX5_pots, cX5_pots, 6, none, rX5_pots)
theorem mv_X5_pots : aw_mV mX5_pots 2 := ⟨⟨aw_in 880 (by decide +kernel) rfl, aw_in 7 (by decide +kernel) rfl, rfl, rfl, by decide, by decide, by decide +kernel⟩, aw_in 879 (by decide +kernel) rfl, aw_inS 45 (by decide +kernel) rfl⟩
def rX5_todays : Room := { frames := 0, cells := 0, slots := 0, locals := 0 }
def mX5_todays : aw_M := (yX5_todays, cX5_todays, 1, some .int, rX5_todays)
theorem mv_X5_todays : aw_mV mX5_todays 0 := ⟨⟨aw_in 876 (by decide +kernel) rfl, aw_in 7 (by decide +kernel) rfl, rfl, rfl, by decide, by decide, by decide +kernel⟩, aw_in 875 (by decide +kernel) rfl, aw_inS 44 (by decide +kernel) rfl⟩
def rX5_dayGoes : Room := { frames := 5, cells := 0, slots := 0, locals := 115 }
def mX5_dayGoes : aw_M := (yX5_dayGoes, cX5_dayGoes, 4, none, rX5_dayGoes)
theorem mv_X5_dayGoes : aw_mV mX5_dayGoes 0 := ⟨⟨aw_in 872 (by decide +kernel) rfl, aw_in 7 (by decide +kernel) rfl, rfl, rfl, by decide, by decide, by decide +kernel⟩, aw_in 871 (by decide +kernel) rfl, aw_inS 43 (by decide +kernel) rfl⟩
def rX5_daysGo : Room := { frames := 6, cells := 0, slots := 0, locals := 138 }
def mX5_daysGo : aw_M := (yX5_daysGo, cX5_daysGo, 3, none, rX5_daysGo)
theorem mv_X5_daysGo : aw_mV mX5_daysGo 1 := ⟨⟨aw_in 868 (by decide +kernel) rfl, aw_in 7 (by decide +kernel) rfl, rfl, rfl, by decide, by decide, by decide +kernel⟩, aw_in 867 (by decide +kernel) rfl, aw_inS 42 (by decide +kernel) rfl⟩
def rX5_sumOf : Room := { frames := 1, cells := 0, slots := 0, locals := 22 }
def mX5_sumOf : aw_M := (yX5_sumOf, cX5_sumOf, 4, some .int, rX5_sumOf)
theorem mv_X5_sumOf : aw_mV mX5_sumOf 1 := ⟨⟨aw_in 900 (by decide +kernel) rfl, aw_in 7 (by decide +kernel) rfl, rfl, rfl, by decide, by decide, by decide +kernel⟩, aw_in 899 (by decide +kernel) rfl, aw_inS 49 (by decide +kernel) rfl⟩
def rX5_clay : Room := { frames := 1, cells := 0, slots := 0, locals := 25 }
def mX5_clay : aw_M := (yX5_clay, cX5_clay, 2, some .int, rX5_clay)
theorem mv_X5_clay : aw_mV mX5_clay 1 := ⟨⟨aw_in 751 (by decide +kernel) rfl, aw_in 7 (by decide +kernel) rfl, rfl, rfl, by decide, by decide, by decide +kernel⟩, aw_in 749 (by decide +kernel) rfl, aw_in 750 (by decide +kernel) rfl⟩
def rX5_pair : Room := { frames := 1, cells := 0, slots := 0, locals := 25 }
def mX5_pair : aw_M := (yX5_pair, cX5_pair, 4, some .int, rX5_pair)
theorem mv_X5_pair : aw_mV mX5_pair 3 := ⟨⟨aw_in 768 (by decide +kernel) rfl, aw_in 7 (by decide +kernel) rfl, rfl, rfl, by decide, by decide, by decide +kernel⟩, aw_in 766 (by decide +kernel) rfl, aw_in 767 (by decide +kernel) rfl⟩
def rX5_listed : Room := { frames := 1, cells := 0, slots := 0, locals := 25 }
def mX5_listed : aw_M := (yX5_listed, cX5_listed, 2, some .int, rX5_listed)
theorem mv_X5_listed : aw_mV mX5_listed 1 := ⟨⟨aw_in 774 (by decide +kernel) rfl, aw_in 7 (by decide +kernel) rfl, rfl, rfl, by decide, by decide, by decide +kernel⟩, aw_in 772 (by decide +kernel) rfl, aw_in 773 (by decide +kernel) rfl⟩
def rX5_comes : Room := { frames := 1, cells := 0, slots := 0, locals := 23 }
def mX5_comes : aw_M := (yX5_comes, cX5_comes, 5, some .int, rX5_comes)
theorem mv_X5_comes : aw_mV mX5_comes 2 := ⟨⟨aw_in 784 (by decide +kernel) rfl, aw_in 7 (by decide +kernel) rfl, rfl, rfl, by decide, by decide, by decide +kernel⟩, aw_in 783 (by decide +kernel) rfl, aw_inS 30 (by decide +kernel) rfl⟩
def rX5_potter : Room := { frames := 2, cells := 0, slots := 0, locals := 47 }
def mX5_potter : aw_M := (yX5_potter, cX5_potter, 3, some .int, rX5_potter)
theorem mv_X5_potter : aw_mV mX5_potter 2 := ⟨⟨aw_in 778 (by decide +kernel) rfl, aw_in 7 (by decide +kernel) rfl, rfl, rfl, by decide, by decide, by decide +kernel⟩, aw_in 776 (by decide +kernel) rfl, aw_in 777 (by decide +kernel) rfl⟩
def rX5_of : Room := { frames := 2, cells := 0, slots := 0, locals := 46 }
def mX5_of : aw_M := (yX5_of, cX5_of, 3, some .int, rX5_of)
theorem mv_X5_of : aw_mV mX5_of 2 := ⟨⟨aw_in 792 (by decide +kernel) rfl, aw_in 7 (by decide +kernel) rfl, rfl, rfl, by decide, by decide, by decide +kernel⟩, aw_in 790 (by decide +kernel) rfl, aw_in 791 (by decide +kernel) rfl⟩
def rX5_mostOf : Room := { frames := 0, cells := 0, slots := 0, locals := 0 }
def mX5_mostOf : aw_M := (yX5_mostOf, cX5_mostOf, 1, some .int, rX5_mostOf)
theorem ms_X5_mostOf : aw_mS mX5_mostOf 1 := ⟨⟨aw_in 827 (by decide +kernel) rfl, aw_in 7 (by decide +kernel) rfl, rfl, rfl, by decide, by decide, by decide +kernel⟩, aw_in 826 (by decide +kernel) rfl⟩
def rX5_change : Room := { frames := 2, cells := 0, slots := 0, locals := 46 }
def mX5_change : aw_M := (yX5_change, cX5_change, 4, some .int, rX5_change)
theorem mv_X5_change : aw_mV mX5_change 3 := ⟨⟨aw_in 824 (by decide +kernel) rfl, aw_in 7 (by decide +kernel) rfl, rfl, rfl, by decide, by decide, by decide +kernel⟩, aw_in 822 (by decide +kernel) rfl, aw_in 823 (by decide +kernel) rfl⟩
def rX5_rift : Room := { frames := 3, cells := 0, slots := 0, locals := 68 }
def mX5_rift : aw_M := (yX5_rift, cX5_rift, 4, some .int, rX5_rift)
theorem mv_X5_rift : aw_mV mX5_rift 3 := ⟨⟨aw_in 831 (by decide +kernel) rfl, aw_in 7 (by decide +kernel) rfl, rfl, rfl, by decide, by decide, by decide +kernel⟩, aw_in 829 (by decide +kernel) rfl, aw_in 830 (by decide +kernel) rfl⟩
def rX5_two : Room := { frames := 4, cells := 0, slots := 0, locals := 90 }
def mX5_two : aw_M := (yX5_two, cX5_two, 4, some .int, rX5_two)
theorem mv_X5_two : aw_mV mX5_two 3 := ⟨⟨aw_in 842 (by decide +kernel) rfl, aw_in 7 (by decide +kernel) rfl, rfl, rfl, by decide, by decide, by decide +kernel⟩, aw_in 840 (by decide +kernel) rfl, aw_in 841 (by decide +kernel) rfl⟩
def rX5_go : Room := { frames := 7, cells := 0, slots := 0, locals := 160 }
def mX5_go : aw_M := (yX5_go, cX5_go, 2, some .int, rX5_go)
theorem mv_X5_go : aw_mV mX5_go 1 := ⟨⟨aw_in 862 (by decide +kernel) rfl, aw_in 7 (by decide +kernel) rfl, rfl, rfl, by decide, by decide, by decide +kernel⟩, aw_in 860 (by decide +kernel) rfl, aw_in 861 (by decide +kernel) rfl⟩
def rX5_farthest : Room := { frames := 0, cells := 0, slots := 0, locals := 0 }
def mX5_farthest : aw_M := (yX5_farthest, cX5_farthest, 4, some .int, rX5_farthest)
theorem mv_X5_farthest : aw_mV mX5_farthest 0 := ⟨⟨aw_in 904 (by decide +kernel) rfl, aw_in 7 (by decide +kernel) rfl, rfl, rfl, by decide, by decide, by decide +kernel⟩, aw_in 903 (by decide +kernel) rfl, aw_inS 50 (by decide +kernel) rfl⟩
def rX5_now : Room := { frames := 3, cells := 0, slots := 0, locals := 68 }
def mX5_now : aw_M := (yX5_now, cX5_now, 2, some .int, rX5_now)
theorem mv_X5_now : aw_mV mX5_now 1 := ⟨⟨aw_in 896 (by decide +kernel) rfl, aw_in 7 (by decide +kernel) rfl, rfl, rfl, by decide, by decide, by decide +kernel⟩, aw_in 894 (by decide +kernel) rfl, aw_in 895 (by decide +kernel) rfl⟩
def rX5_behind : Room := { frames := 7, cells := 0, slots := 0, locals := 160 }
def mX5_behind : aw_M := (yX5_behind, cX5_behind, 4, some .int, rX5_behind)
theorem mv_X5_behind : aw_mV mX5_behind 2 := ⟨⟨aw_in 920 (by decide +kernel) rfl, aw_in 7 (by decide +kernel) rfl, rfl, rfl, by decide, by decide, by decide +kernel⟩, aw_in 919 (by decide +kernel) rfl, aw_inS 51 (by decide +kernel) rfl⟩
def rX5_ahead : Room := { frames := 7, cells := 0, slots := 0, locals := 160 }
def mX5_ahead : aw_M := (yX5_ahead, cX5_ahead, 5, some .int, rX5_ahead)
theorem mv_X5_ahead : aw_mV mX5_ahead 3 := ⟨⟨aw_in 908 (by decide +kernel) rfl, aw_in 7 (by decide +kernel) rfl, rfl, rfl, by decide, by decide, by decide +kernel⟩, aw_in 906 (by decide +kernel) rfl, aw_in 907 (by decide +kernel) rfl⟩
def rX5_terms : Room := { frames := 8, cells := 0, slots := 0, locals := 183 }
def mX5_terms : aw_M := (yX5_terms, cX5_terms, 4, some .int, rX5_terms)
theorem mv_X5_terms : aw_mV mX5_terms 3 := ⟨⟨aw_in 916 (by decide +kernel) rfl, aw_in 7 (by decide +kernel) rfl, rfl, rfl, by decide, by decide, by decide +kernel⟩, aw_in 914 (by decide +kernel) rfl, aw_in 915 (by decide +kernel) rfl⟩
def rX5_firstOf : Room := { frames := 6, cells := 0, slots := 0, locals := 138 }
def mX5_firstOf : aw_M := (yX5_firstOf, cX5_firstOf, 6, some .int, rX5_firstOf)
theorem mv_X5_firstOf : aw_mV mX5_firstOf 3 := ⟨⟨aw_in 928 (by decide +kernel) rfl, aw_in 7 (by decide +kernel) rfl, rfl, rfl, by decide, by decide, by decide +kernel⟩, aw_in 927 (by decide +kernel) rfl, aw_inS 52 (by decide +kernel) rfl⟩
def rX5_next : Room := { frames := 7, cells := 0, slots := 0, locals := 163 }
def mX5_next : aw_M := (yX5_next, cX5_next, 2, some .int, rX5_next)
theorem mv_X5_next : aw_mV mX5_next 1 := ⟨⟨aw_in 924 (by decide +kernel) rfl, aw_in 7 (by decide +kernel) rfl, rfl, rfl, by decide, by decide, by decide +kernel⟩, aw_in 922 (by decide +kernel) rfl, aw_in 923 (by decide +kernel) rfl⟩
def rX5_peace : Room := { frames := 7, cells := 0, slots := 0, locals := 163 }
def mX5_peace : aw_M := (yX5_peace, cX5_peace, 4, some .int, rX5_peace)
theorem mv_X5_peace : aw_mV mX5_peace 3 := ⟨⟨aw_in 932 (by decide +kernel) rfl, aw_in 7 (by decide +kernel) rfl, rfl, rfl, by decide, by decide, by decide +kernel⟩, aw_in 930 (by decide +kernel) rfl, aw_in 931 (by decide +kernel) rfl⟩
def rX5_when : Room := { frames := 7, cells := 0, slots := 0, locals := 163 }
def mX5_when : aw_M := (yX5_when, cX5_when, 3, some .int, rX5_when)
theorem mv_X5_when : aw_mV mX5_when 2 := ⟨⟨aw_in 936 (by decide +kernel) rfl, aw_in 7 (by decide +kernel) rfl, rfl, rfl, by decide, by decide, by decide +kernel⟩, aw_in 934 (by decide +kernel) rfl, aw_in 935 (by decide +kernel) rfl⟩
def rX5_isShort : Room := { frames := 1, cells := 0, slots := 0, locals := 25 }
def mX5_isShort : aw_M := (yX5_isShort, cX5_isShort, 1, some .boolean, rX5_isShort)
theorem ms_X5_isShort : aw_mS mX5_isShort 1 := ⟨⟨aw_in 944 (by decide +kernel) rfl, aw_in 7 (by decide +kernel) rfl, rfl, rfl, by decide, by decide, by decide +kernel⟩, aw_in 943 (by decide +kernel) rfl⟩
def rX5_setWith : Room := { frames := 8, cells := 0, slots := 0, locals := 183 }
def mX5_setWith : aw_M := (yX5_setWith, cX5_setWith, 8, some .int, rX5_setWith)
theorem mv_X5_setWith : aw_mV mX5_setWith 3 := ⟨⟨aw_in 941 (by decide +kernel) rfl, aw_in 7 (by decide +kernel) rfl, rfl, rfl, by decide, by decide, by decide +kernel⟩, aw_in 939 (by decide +kernel) rfl, aw_in 940 (by decide +kernel) rfl⟩
def rX5_bestOf : Room := { frames := 8, cells := 0, slots := 0, locals := 183 }
def mX5_bestOf : aw_M := (yX5_bestOf, cX5_bestOf, 8, some .int, rX5_bestOf)
theorem mv_X5_bestOf : aw_mV mX5_bestOf 3 := ⟨⟨aw_in 952 (by decide +kernel) rfl, aw_in 7 (by decide +kernel) rfl, rfl, rfl, by decide, by decide, by decide +kernel⟩, aw_in 951 (by decide +kernel) rfl, aw_inS 53 (by decide +kernel) rfl⟩
def rX5_heatFor : Room := { frames := 9, cells := 0, slots := 0, locals := 210 }
def mX5_heatFor : aw_M := (yX5_heatFor, cX5_heatFor, 3, some .int, rX5_heatFor)
theorem mv_X5_heatFor : aw_mV mX5_heatFor 2 := ⟨⟨aw_in 948 (by decide +kernel) rfl, aw_in 7 (by decide +kernel) rfl, rfl, rfl, by decide, by decide, by decide +kernel⟩, aw_in 946 (by decide +kernel) rfl, aw_in 947 (by decide +kernel) rfl⟩
def rX5_kindFor : Room := { frames := 9, cells := 0, slots := 0, locals := 210 }
def mX5_kindFor : aw_M := (yX5_kindFor, cX5_kindFor, 3, some .int, rX5_kindFor)
theorem mv_X5_kindFor : aw_mV mX5_kindFor 2 := ⟨⟨aw_in 956 (by decide +kernel) rfl, aw_in 7 (by decide +kernel) rfl, rfl, rfl, by decide, by decide, by decide +kernel⟩, aw_in 954 (by decide +kernel) rfl, aw_in 955 (by decide +kernel) rfl⟩
def rX5_clayFor : Room := { frames := 8, cells := 0, slots := 0, locals := 183 }
def mX5_clayFor : aw_M := (yX5_clayFor, cX5_clayFor, 4, some .int, rX5_clayFor)
theorem mv_X5_clayFor : aw_mV mX5_clayFor 2 := ⟨⟨aw_in 960 (by decide +kernel) rfl, aw_in 7 (by decide +kernel) rfl, rfl, rfl, by decide, by decide, by decide +kernel⟩, aw_in 958 (by decide +kernel) rfl, aw_in 959 (by decide +kernel) rfl⟩
def rX5_reconciles : Room := { frames := 0, cells := 0, slots := 0, locals := 0 }
def mX5_reconciles : aw_M := (yX5_reconciles, cX5_reconciles, 4, none, rX5_reconciles)
theorem mv_X5_reconciles : aw_mV mX5_reconciles 1 := ⟨⟨aw_in 971 (by decide +kernel) rfl, aw_in 7 (by decide +kernel) rfl, rfl, rfl, by decide, by decide, by decide +kernel⟩, aw_in 970 (by decide +kernel) rfl, aw_inS 54 (by decide +kernel) rfl⟩
def rX5_reconcile : Room := { frames := 8, cells := 0, slots := 0, locals := 183 }
def mX5_reconcile : aw_M := (yX5_reconcile, cX5_reconcile, 4, some .int, rX5_reconcile)
theorem mv_X5_reconcile : aw_mV mX5_reconcile 1 := ⟨⟨aw_in 964 (by decide +kernel) rfl, aw_in 7 (by decide +kernel) rfl, rfl, rfl, by decide, by decide, by decide +kernel⟩, aw_in 962 (by decide +kernel) rfl, aw_in 963 (by decide +kernel) rfl⟩
def rX5_fitting : Room := { frames := 6, cells := 0, slots := 0, locals := 138 }
def mX5_fitting : aw_M := (yX5_fitting, cX5_fitting, 12, some .int, rX5_fitting)
theorem mv_X5_fitting : aw_mV mX5_fitting 5 := ⟨⟨aw_in 986 (by decide +kernel) rfl, aw_in 7 (by decide +kernel) rfl, rfl, rfl, by decide, by decide, by decide +kernel⟩, aw_in 985 (by decide +kernel) rfl, aw_inS 56 (by decide +kernel) rfl⟩
def rX5_isSheet : Room := { frames := 1, cells := 0, slots := 0, locals := 25 }
def mX5_isSheet : aw_M := (yX5_isSheet, cX5_isSheet, 1, some .boolean, rX5_isSheet)
theorem ms_X5_isSheet : aw_mS mX5_isSheet 1 := ⟨⟨aw_in 982 (by decide +kernel) rfl, aw_in 7 (by decide +kernel) rfl, rfl, rfl, by decide, by decide, by decide +kernel⟩, aw_in 981 (by decide +kernel) rfl⟩
def rX5_whyNone : Room := { frames := 2, cells := 0, slots := 0, locals := 45 }
def mX5_whyNone : aw_M := (yX5_whyNone, cX5_whyNone, 2, some .int, rX5_whyNone)
theorem mv_X5_whyNone : aw_mV mX5_whyNone 1 := ⟨⟨aw_in 979 (by decide +kernel) rfl, aw_in 7 (by decide +kernel) rfl, rfl, rfl, by decide, by decide, by decide +kernel⟩, aw_in 978 (by decide +kernel) rfl, aw_inS 55 (by decide +kernel) rfl⟩
def rX5_fits : Room := { frames := 7, cells := 0, slots := 0, locals := 169 }
def mX5_fits : aw_M := (yX5_fits, cX5_fits, 5, some .int, rX5_fits)
theorem mv_X5_fits : aw_mV mX5_fits 3 := ⟨⟨aw_in 975 (by decide +kernel) rfl, aw_in 7 (by decide +kernel) rfl, rfl, rfl, by decide, by decide, by decide +kernel⟩, aw_in 973 (by decide +kernel) rfl, aw_in 974 (by decide +kernel) rfl⟩
def rX5_kinds : Room := { frames := 7, cells := 0, slots := 0, locals := 169 }
def mX5_kinds : aw_M := (yX5_kinds, cX5_kinds, 4, some .int, rX5_kinds)
theorem mv_X5_kinds : aw_mV mX5_kinds 2 := ⟨⟨aw_in 990 (by decide +kernel) rfl, aw_in 7 (by decide +kernel) rfl, rfl, rfl, by decide, by decide, by decide +kernel⟩, aw_in 988 (by decide +kernel) rfl, aw_in 989 (by decide +kernel) rfl⟩
def rX5_draw : Room := { frames := 0, cells := 0, slots := 0, locals := 0 }
def mX5_draw : aw_M := (yX5_draw, cX5_draw, 1, some .int, rX5_draw)
theorem mv_X5_draw : aw_mV mX5_draw 0 := ⟨⟨aw_in 998 (by decide +kernel) rfl, aw_in 7 (by decide +kernel) rfl, rfl, rfl, by decide, by decide, by decide +kernel⟩, aw_in 997 (by decide +kernel) rfl, aw_inS 57 (by decide +kernel) rfl⟩
def rX5_market : Room := { frames := 6, cells := 0, slots := 0, locals := 138 }
def mX5_market : aw_M := (yX5_market, cX5_market, 5, some .int, rX5_market)
theorem mv_X5_market : aw_mV mX5_market 1 := ⟨⟨aw_in 994 (by decide +kernel) rfl, aw_in 7 (by decide +kernel) rfl, rfl, rfl, by decide, by decide, by decide +kernel⟩, aw_in 992 (by decide +kernel) rfl, aw_in 993 (by decide +kernel) rfl⟩
def rX5_common : Room := { frames := 0, cells := 0, slots := 0, locals := 0 }
def mX5_common : aw_M := (yX5_common, cX5_common, 5, some .int, rX5_common)
theorem ms_X5_common : aw_mS mX5_common 2 := ⟨⟨aw_in 1007 (by decide +kernel) rfl, aw_in 7 (by decide +kernel) rfl, rfl, rfl, by decide, by decide, by decide +kernel⟩, aw_in 1006 (by decide +kernel) rfl⟩
def rX5_odds : Room := { frames := 4, cells := 0, slots := 0, locals := 90 }
def mX5_odds : aw_M := (yX5_odds, cX5_odds, 11, some .long, rX5_odds)
theorem mv_X5_odds : aw_mV mX5_odds 4 := ⟨⟨aw_in 1003 (by decide +kernel) rfl, aw_in 7 (by decide +kernel) rfl, rfl, rfl, by decide, by decide, by decide +kernel⟩, aw_in 1001 (by decide +kernel) rfl, aw_in 1002 (by decide +kernel) rfl⟩
def rX5_seed : Room := { frames := 1, cells := 0, slots := 0, locals := 23 }
def mX5_seed : aw_M := (yX5_seed, cX5_seed, 2, some .int, rX5_seed)
theorem mv_X5_seed : aw_mV mX5_seed 1 := ⟨⟨aw_in 1011 (by decide +kernel) rfl, aw_in 7 (by decide +kernel) rfl, rfl, rfl, by decide, by decide, by decide +kernel⟩, aw_in 1009 (by decide +kernel) rfl, aw_in 1010 (by decide +kernel) rfl⟩
def rX5_feed : Room := { frames := 1, cells := 0, slots := 0, locals := 25 }
def mX5_feed : aw_M := (yX5_feed, cX5_feed, 4, some .int, rX5_feed)
theorem mv_X5_feed : aw_mV mX5_feed 2 := ⟨⟨aw_in 1015 (by decide +kernel) rfl, aw_in 7 (by decide +kernel) rfl, rfl, rfl, by decide, by decide, by decide +kernel⟩, aw_in 1013 (by decide +kernel) rfl, aw_in 1014 (by decide +kernel) rfl⟩
def rX5_wipe : Room := { frames := 0, cells := 0, slots := 0, locals := 0 }
def mX5_wipe : aw_M := (yX5_wipe, cX5_wipe, 2, some .int, rX5_wipe)
theorem mv_X5_wipe : aw_mV mX5_wipe 0 := ⟨⟨aw_in 1020 (by decide +kernel) rfl, aw_in 7 (by decide +kernel) rfl, rfl, rfl, by decide, by decide, by decide +kernel⟩, aw_in 1018 (by decide +kernel) rfl, aw_in 1019 (by decide +kernel) rfl⟩
def rX5_letter : Room := { frames := 0, cells := 0, slots := 0, locals := 0 }
def mX5_letter : aw_M := (yX5_letter, cX5_letter, 1, some .int, rX5_letter)
theorem ms_X5_letter : aw_mS mX5_letter 1 := ⟨⟨aw_in 1039 (by decide +kernel) rfl, aw_in 7 (by decide +kernel) rfl, rfl, rfl, by decide, by decide, by decide +kernel⟩, aw_in 1038 (by decide +kernel) rfl⟩
def rX5_isDigit : Room := { frames := 0, cells := 0, slots := 0, locals := 0 }
def mX5_isDigit : aw_M := (yX5_isDigit, cX5_isDigit, 1, some .boolean, rX5_isDigit)
theorem ms_X5_isDigit : aw_mS mX5_isDigit 1 := ⟨⟨aw_in 1044 (by decide +kernel) rfl, aw_in 7 (by decide +kernel) rfl, rfl, rfl, by decide, by decide, by decide +kernel⟩, aw_in 1043 (by decide +kernel) rfl⟩
def rX5_byteAt : Room := { frames := 0, cells := 0, slots := 0, locals := 0 }
def mX5_byteAt : aw_M := (yX5_byteAt, cX5_byteAt, 2, some .int, rX5_byteAt)
theorem mv_X5_byteAt : aw_mV mX5_byteAt 1 := ⟨⟨aw_in 1036 (by decide +kernel) rfl, aw_in 7 (by decide +kernel) rfl, rfl, rfl, by decide, by decide, by decide +kernel⟩, aw_in 1035 (by decide +kernel) rfl, aw_inS 60 (by decide +kernel) rfl⟩
def rX5_next_ : Room := { frames := 1, cells := 0, slots := 0, locals := 21 }
def mX5_next_ : aw_M := (yX5_next_, cX5_next_, 2, none, rX5_next_)
theorem mv_X5_next_ : aw_mV mX5_next_ 0 := ⟨⟨aw_in 1032 (by decide +kernel) rfl, aw_in 7 (by decide +kernel) rfl, rfl, rfl, by decide, by decide, by decide +kernel⟩, aw_in 1031 (by decide +kernel) rfl, aw_inS 59 (by decide +kernel) rfl⟩
def rX5_wrongHere : Room := { frames := 0, cells := 0, slots := 0, locals := 0 }
def mX5_wrongHere : aw_M := (yX5_wrongHere, cX5_wrongHere, 1, none, rX5_wrongHere)
theorem mv_X5_wrongHere : aw_mV mX5_wrongHere 0 := ⟨⟨aw_in 1074 (by decide +kernel) rfl, aw_in 7 (by decide +kernel) rfl, rfl, rfl, by decide, by decide, by decide +kernel⟩, aw_in 1073 (by decide +kernel) rfl, aw_inS 65 (by decide +kernel) rfl⟩
def rX5_isWord : Room := { frames := 0, cells := 0, slots := 0, locals := 0 }
def mX5_isWord : aw_M := (yX5_isWord, cX5_isWord, 3, some .boolean, rX5_isWord)
theorem mv_X5_isWord : aw_mV mX5_isWord 1 := ⟨⟨aw_in 1060 (by decide +kernel) rfl, aw_in 7 (by decide +kernel) rfl, rfl, rfl, by decide, by decide, by decide +kernel⟩, aw_in 1059 (by decide +kernel) rfl, aw_inS 63 (by decide +kernel) rfl⟩
def rX5_kindHere : Room := { frames := 1, cells := 0, slots := 0, locals := 22 }
def mX5_kindHere : aw_M := (yX5_kindHere, cX5_kindHere, 1, some .int, rX5_kindHere)
theorem mv_X5_kindHere : aw_mV mX5_kindHere 0 := ⟨⟨aw_in 1055 (by decide +kernel) rfl, aw_in 7 (by decide +kernel) rfl, rfl, rfl, by decide, by decide, by decide +kernel⟩, aw_in 1054 (by decide +kernel) rfl, aw_inS 62 (by decide +kernel) rfl⟩
def rX5_numberHere : Room := { frames := 2, cells := 0, slots := 0, locals := 42 }
def mX5_numberHere : aw_M := (yX5_numberHere, cX5_numberHere, 5, some .int, rX5_numberHere)
theorem mv_X5_numberHere : aw_mV mX5_numberHere 3 := ⟨⟨aw_in 1083 (by decide +kernel) rfl, aw_in 7 (by decide +kernel) rfl, rfl, rfl, by decide, by decide, by decide +kernel⟩, aw_in 1082 (by decide +kernel) rfl, aw_inS 67 (by decide +kernel) rfl⟩
def rX5_perhaps : Room := { frames := 3, cells := 0, slots := 0, locals := 66 }
def mX5_perhaps : aw_M := (yX5_perhaps, cX5_perhaps, 6, none, rX5_perhaps)
theorem mv_X5_perhaps : aw_mV mX5_perhaps 3 := ⟨⟨aw_in 1079 (by decide +kernel) rfl, aw_in 7 (by decide +kernel) rfl, rfl, rfl, by decide, by decide, by decide +kernel⟩, aw_in 1078 (by decide +kernel) rfl, aw_inS 66 (by decide +kernel) rfl⟩
def rX5_potterHere : Room := { frames := 4, cells := 0, slots := 0, locals := 91 }
def mX5_potterHere : aw_M := (yX5_potterHere, cX5_potterHere, 3, none, rX5_potterHere)
theorem mv_X5_potterHere : aw_mV mX5_potterHere 1 := ⟨⟨aw_in 1070 (by decide +kernel) rfl, aw_in 7 (by decide +kernel) rfl, rfl, rfl, by decide, by decide, by decide +kernel⟩, aw_in 1069 (by decide +kernel) rfl, aw_inS 64 (by decide +kernel) rfl⟩
def rX5_riftHere : Room := { frames := 3, cells := 0, slots := 0, locals := 66 }
def mX5_riftHere : aw_M := (yX5_riftHere, cX5_riftHere, 4, none, rX5_riftHere)
theorem mv_X5_riftHere : aw_mV mX5_riftHere 0 := ⟨⟨aw_in 1090 (by decide +kernel) rfl, aw_in 7 (by decide +kernel) rfl, rfl, rfl, by decide, by decide, by decide +kernel⟩, aw_in 1089 (by decide +kernel) rfl, aw_inS 68 (by decide +kernel) rfl⟩
def rX5_pairHere : Room := { frames := 3, cells := 0, slots := 0, locals := 66 }
def mX5_pairHere : aw_M := (yX5_pairHere, cX5_pairHere, 4, none, rX5_pairHere)
theorem mv_X5_pairHere : aw_mV mX5_pairHere 0 := ⟨⟨aw_in 1095 (by decide +kernel) rfl, aw_in 7 (by decide +kernel) rfl, rfl, rfl, by decide, by decide, by decide +kernel⟩, aw_in 1094 (by decide +kernel) rfl, aw_inS 69 (by decide +kernel) rfl⟩
def rX5_item : Room := { frames := 5, cells := 0, slots := 0, locals := 113 }
def mX5_item : aw_M := (yX5_item, cX5_item, 2, none, rX5_item)
theorem mv_X5_item : aw_mV mX5_item 0 := ⟨⟨aw_in 1051 (by decide +kernel) rfl, aw_in 7 (by decide +kernel) rfl, rfl, rfl, by decide, by decide, by decide +kernel⟩, aw_in 1050 (by decide +kernel) rfl, aw_inS 61 (by decide +kernel) rfl⟩
def rX5_items : Room := { frames := 6, cells := 0, slots := 0, locals := 134 }
def mX5_items : aw_M := (yX5_items, cX5_items, 2, some .int, rX5_items)
theorem mv_X5_items : aw_mV mX5_items 0 := ⟨⟨aw_in 1028 (by decide +kernel) rfl, aw_in 7 (by decide +kernel) rfl, rfl, rfl, by decide, by decide, by decide +kernel⟩, aw_in 1027 (by decide +kernel) rfl, aw_inS 58 (by decide +kernel) rfl⟩
def rX5_text : Room := { frames := 7, cells := 0, slots := 0, locals := 155 }
def mX5_text : aw_M := (yX5_text, cX5_text, 2, some .int, rX5_text)
theorem mv_X5_text : aw_mV mX5_text 0 := ⟨⟨aw_in 1024 (by decide +kernel) rfl, aw_in 7 (by decide +kernel) rfl, rfl, rfl, by decide, by decide, by decide +kernel⟩, aw_in 1022 (by decide +kernel) rfl, aw_in 1023 (by decide +kernel) rfl⟩
def rX5_hold : Room := { frames := 1, cells := 0, slots := 0, locals := 25 }
def mX5_hold : aw_M := (yX5_hold, cX5_hold, 3, some .int, rX5_hold)
theorem mv_X5_hold : aw_mV mX5_hold 2 := ⟨⟨aw_in 1100 (by decide +kernel) rfl, aw_in 7 (by decide +kernel) rfl, rfl, rfl, by decide, by decide, by decide +kernel⟩, aw_in 1098 (by decide +kernel) rfl, aw_in 1099 (by decide +kernel) rfl⟩
def rX5_above : Room := { frames := 0, cells := 0, slots := 0, locals := 0 }
def mX5_above : aw_M := (yX5_above, cX5_above, 1, some .int, rX5_above)
theorem ms_X5_above : aw_mS mX5_above 1 := ⟨⟨aw_in 1108 (by decide +kernel) rfl, aw_in 7 (by decide +kernel) rfl, rfl, rfl, by decide, by decide, by decide +kernel⟩, aw_in 1107 (by decide +kernel) rfl⟩
def rX5_as : Room := { frames := 1, cells := 0, slots := 0, locals := 25 }
def mX5_as : aw_M := (yX5_as, cX5_as, 5, some .int, rX5_as)
theorem mv_X5_as : aw_mV mX5_as 2 := ⟨⟨aw_in 1105 (by decide +kernel) rfl, aw_in 7 (by decide +kernel) rfl, rfl, rfl, by decide, by decide, by decide +kernel⟩, aw_in 1103 (by decide +kernel) rfl, aw_in 1104 (by decide +kernel) rfl⟩
def rX5_sheet : Room := { frames := 2, cells := 0, slots := 0, locals := 45 }
def mX5_sheet : aw_M := (yX5_sheet, cX5_sheet, 5, some .int, rX5_sheet)
theorem mv_X5_sheet : aw_mV mX5_sheet 3 := ⟨⟨aw_in 1112 (by decide +kernel) rfl, aw_in 7 (by decide +kernel) rfl, rfl, rfl, by decide, by decide, by decide +kernel⟩, aw_in 1110 (by decide +kernel) rfl, aw_in 1111 (by decide +kernel) rfl⟩
def rX5_write : Room := { frames := 3, cells := 0, slots := 0, locals := 66 }
def mX5_write : aw_M := (yX5_write, cX5_write, 5, some .int, rX5_write)
theorem mv_X5_write : aw_mV mX5_write 3 := ⟨⟨aw_in 1116 (by decide +kernel) rfl, aw_in 7 (by decide +kernel) rfl, rfl, rfl, by decide, by decide, by decide +kernel⟩, aw_in 1114 (by decide +kernel) rfl, aw_in 1115 (by decide +kernel) rfl⟩
def rX5_copy : Room := { frames := 2, cells := 0, slots := 0, locals := 45 }
def mX5_copy : aw_M := (yX5_copy, cX5_copy, 7, some .int, rX5_copy)
theorem mv_X5_copy : aw_mV mX5_copy 5 := ⟨⟨aw_in 1120 (by decide +kernel) rfl, aw_in 7 (by decide +kernel) rfl, rfl, rfl, by decide, by decide, by decide +kernel⟩, aw_in 1118 (by decide +kernel) rfl, aw_in 1119 (by decide +kernel) rfl⟩
def rX5_load : Room := { frames := 3, cells := 0, slots := 0, locals := 66 }
def mX5_load : aw_M := (yX5_load, cX5_load, 4, some .int, rX5_load)
theorem mv_X5_load : aw_mV mX5_load 1 := ⟨⟨aw_in 1124 (by decide +kernel) rfl, aw_in 7 (by decide +kernel) rfl, rfl, rfl, by decide, by decide, by decide +kernel⟩, aw_in 1122 (by decide +kernel) rfl, aw_in 1123 (by decide +kernel) rfl⟩
def rX5_judge : Room := { frames := 3, cells := 0, slots := 0, locals := 66 }
def mX5_judge : aw_M := (yX5_judge, cX5_judge, 4, some .int, rX5_judge)
theorem mv_X5_judge : aw_mV mX5_judge 1 := ⟨⟨aw_in 1128 (by decide +kernel) rfl, aw_in 7 (by decide +kernel) rfl, rfl, rfl, by decide, by decide, by decide +kernel⟩, aw_in 1126 (by decide +kernel) rfl, aw_in 1127 (by decide +kernel) rfl⟩
def rX5_image : Room := { frames := 1, cells := 0, slots := 0, locals := 22 }
def mX5_image : aw_M := (yX5_image, cX5_image, 1, some .int, rX5_image)
theorem mv_X5_image : aw_mV mX5_image 0 := ⟨⟨aw_in 1132 (by decide +kernel) rfl, aw_in 7 (by decide +kernel) rfl, rfl, rfl, by decide, by decide, by decide +kernel⟩, aw_in 1130 (by decide +kernel) rfl, aw_in 1131 (by decide +kernel) rfl⟩
def rX5_undo : Room := { frames := 1, cells := 0, slots := 0, locals := 22 }
def mX5_undo : aw_M := (yX5_undo, cX5_undo, 1, some .int, rX5_undo)
theorem mv_X5_undo : aw_mV mX5_undo 0 := ⟨⟨aw_in 1136 (by decide +kernel) rfl, aw_in 7 (by decide +kernel) rfl, rfl, rfl, by decide, by decide, by decide +kernel⟩, aw_in 1134 (by decide +kernel) rfl, aw_in 1135 (by decide +kernel) rfl⟩
def rX5_tear : Room := { frames := 0, cells := 0, slots := 0, locals := 0 }
def mX5_tear : aw_M := (yX5_tear, cX5_tear, 2, some .int, rX5_tear)
theorem mv_X5_tear : aw_mV mX5_tear 0 := ⟨⟨aw_in 1140 (by decide +kernel) rfl, aw_in 7 (by decide +kernel) rfl, rfl, rfl, by decide, by decide, by decide +kernel⟩, aw_in 1138 (by decide +kernel) rfl, aw_in 1139 (by decide +kernel) rfl⟩
def rX5_holding : Room := { frames := 0, cells := 0, slots := 0, locals := 0 }
def mX5_holding : aw_M := (yX5_holding, cX5_holding, 3, some .int, rX5_holding)
theorem mv_X5_holding : aw_mV mX5_holding 0 := ⟨⟨aw_in 1148 (by decide +kernel) rfl, aw_in 7 (by decide +kernel) rfl, rfl, rfl, by decide, by decide, by decide +kernel⟩, aw_in 1147 (by decide +kernel) rfl, aw_inS 70 (by decide +kernel) rfl⟩
def rX5_count : Room := { frames := 2, cells := 0, slots := 0, locals := 45 }
def mX5_count : aw_M := (yX5_count, cX5_count, 2, some .int, rX5_count)
theorem mv_X5_count : aw_mV mX5_count 1 := ⟨⟨aw_in 1144 (by decide +kernel) rfl, aw_in 7 (by decide +kernel) rfl, rfl, rfl, by decide, by decide, by decide +kernel⟩, aw_in 1142 (by decide +kernel) rfl, aw_in 1143 (by decide +kernel) rfl⟩
def rX5_status : Room := { frames := 1, cells := 0, slots := 0, locals := 25 }
def mX5_status : aw_M := (yX5_status, cX5_status, 4, some .int, rX5_status)
theorem mv_X5_status : aw_mV mX5_status 1 := ⟨⟨aw_in 1152 (by decide +kernel) rfl, aw_in 7 (by decide +kernel) rfl, rfl, rfl, by decide, by decide, by decide +kernel⟩, aw_in 1150 (by decide +kernel) rfl, aw_in 1151 (by decide +kernel) rfl⟩
