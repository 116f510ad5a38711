theorem wd_315 : Cond.code yX7_question cX7_question 3 (some .int) ∈ gw := gw_in 315 (by decide +kernel) (by decide +kernel)
theorem wd_312 : Cond.methodLink RL 13 yX7_question ∈ gw := gw_in 312 (by decide +kernel) (by decide +kernel)
theorem wd_313 : Cond.instanceMethod yX7_question ∈ gw := gw_in 313 (by decide +kernel) (by decide +kernel)
theorem wd_314 : Cond.selects RX7 yX7_question yX7_question ∈ gw := gw_in 314 (by decide +kernel) (by decide +kernel)
theorem wd_977 : Cond.code yX8_question cX8_question 3 (some .int) ∈ gw := gw_in 977 (by decide +kernel) (by decide +kernel)
theorem wd_974 : Cond.methodLink RL 17 yX8_question ∈ gw := gw_in 974 (by decide +kernel) (by decide +kernel)
theorem wd_975 : Cond.instanceMethod yX8_question ∈ gw := gw_in 975 (by decide +kernel) (by decide +kernel)
theorem wd_976 : Cond.selects RX8 yX8_question yX8_question ∈ gw := gw_in 976 (by decide +kernel) (by decide +kernel)
theorem wd_330 : Cond.code yX7_crosser cX7_crosser 4 (some .int) ∈ gw := gw_in 330 (by decide +kernel) (by decide +kernel)
theorem wd_327 : Cond.methodLink RL 18 yX7_crosser ∈ gw := gw_in 327 (by decide +kernel) (by decide +kernel)
theorem wd_328 : Cond.instanceMethod yX7_crosser ∈ gw := gw_in 328 (by decide +kernel) (by decide +kernel)
theorem wd_329 : Cond.selects RX7 yX7_crosser yX7_crosser ∈ gw := gw_in 329 (by decide +kernel) (by decide +kernel)
theorem wd_986 : Cond.code yX8_crosser cX8_crosser 4 (some .int) ∈ gw := gw_in 986 (by decide +kernel) (by decide +kernel)
theorem wd_983 : Cond.methodLink RL 22 yX8_crosser ∈ gw := gw_in 983 (by decide +kernel) (by decide +kernel)
theorem wd_984 : Cond.instanceMethod yX8_crosser ∈ gw := gw_in 984 (by decide +kernel) (by decide +kernel)
theorem wd_985 : Cond.selects RX8 yX8_crosser yX8_crosser ∈ gw := gw_in 985 (by decide +kernel) (by decide +kernel)
theorem wd_338 : Cond.code yX7_of cX7_of 4 (some .int) ∈ gw := gw_in 338 (by decide +kernel) (by decide +kernel)
theorem wd_335 : Cond.methodLink RL 23 yX7_of ∈ gw := gw_in 335 (by decide +kernel) (by decide +kernel)
theorem wd_336 : Cond.instanceMethod yX7_of ∈ gw := gw_in 336 (by decide +kernel) (by decide +kernel)
theorem wd_337 : Cond.selects RX7 yX7_of yX7_of ∈ gw := gw_in 337 (by decide +kernel) (by decide +kernel)
theorem wd_993 : Cond.code yX8_of cX8_of 3 (some .int) ∈ gw := gw_in 993 (by decide +kernel) (by decide +kernel)
theorem wd_990 : Cond.methodLink RL 26 yX8_of ∈ gw := gw_in 990 (by decide +kernel) (by decide +kernel)
theorem wd_991 : Cond.instanceMethod yX8_of ∈ gw := gw_in 991 (by decide +kernel) (by decide +kernel)
theorem wd_992 : Cond.selects RX8 yX8_of yX8_of ∈ gw := gw_in 992 (by decide +kernel) (by decide +kernel)
theorem wd_353 : Cond.code yX7_at cX7_at 4 (some .int) ∈ gw := gw_in 353 (by decide +kernel) (by decide +kernel)
theorem wd_350 : Cond.methodLink RL 27 yX7_at ∈ gw := gw_in 350 (by decide +kernel) (by decide +kernel)
theorem wd_351 : Cond.instanceMethod yX7_at ∈ gw := gw_in 351 (by decide +kernel) (by decide +kernel)
theorem wd_352 : Cond.selects RX7 yX7_at yX7_at ∈ gw := gw_in 352 (by decide +kernel) (by decide +kernel)
theorem wd_1002 : Cond.code yX8_at cX8_at 3 (some .int) ∈ gw := gw_in 1002 (by decide +kernel) (by decide +kernel)
theorem wd_999 : Cond.methodLink RL 30 yX8_at ∈ gw := gw_in 999 (by decide +kernel) (by decide +kernel)
theorem wd_1000 : Cond.instanceMethod yX8_at ∈ gw := gw_in 1000 (by decide +kernel) (by decide +kernel)
theorem wd_1001 : Cond.selects RX8 yX8_at yX8_at ∈ gw := gw_in 1001 (by decide +kernel) (by decide +kernel)
theorem wd_361 : Cond.code yX7_takes cX7_takes 4 (some .int) ∈ gw := gw_in 361 (by decide +kernel) (by decide +kernel)
theorem wd_358 : Cond.methodLink RL 31 yX7_takes ∈ gw := gw_in 358 (by decide +kernel) (by decide +kernel)
theorem wd_359 : Cond.instanceMethod yX7_takes ∈ gw := gw_in 359 (by decide +kernel) (by decide +kernel)
theorem wd_360 : Cond.selects RX7 yX7_takes yX7_takes ∈ gw := gw_in 360 (by decide +kernel) (by decide +kernel)
theorem wd_1010 : Cond.code yX8_takes cX8_takes 3 (some .int) ∈ gw := gw_in 1010 (by decide +kernel) (by decide +kernel)
theorem wd_1007 : Cond.methodLink RL 34 yX8_takes ∈ gw := gw_in 1007 (by decide +kernel) (by decide +kernel)
theorem wd_1008 : Cond.instanceMethod yX8_takes ∈ gw := gw_in 1008 (by decide +kernel) (by decide +kernel)
theorem wd_1009 : Cond.selects RX8 yX8_takes yX8_takes ∈ gw := gw_in 1009 (by decide +kernel) (by decide +kernel)
theorem wd_389 : Cond.code yX7_type cX7_type 2 (some .int) ∈ gw := gw_in 389 (by decide +kernel) (by decide +kernel)
theorem wd_386 : Cond.methodLink RL 35 yX7_type ∈ gw := gw_in 386 (by decide +kernel) (by decide +kernel)
theorem wd_387 : Cond.instanceMethod yX7_type ∈ gw := gw_in 387 (by decide +kernel) (by decide +kernel)
theorem wd_388 : Cond.selects RX7 yX7_type yX7_type ∈ gw := gw_in 388 (by decide +kernel) (by decide +kernel)
theorem wd_1029 : Cond.code yX8_type cX8_type 2 (some .int) ∈ gw := gw_in 1029 (by decide +kernel) (by decide +kernel)
theorem wd_1026 : Cond.methodLink RL 39 yX8_type ∈ gw := gw_in 1026 (by decide +kernel) (by decide +kernel)
theorem wd_1027 : Cond.instanceMethod yX8_type ∈ gw := gw_in 1027 (by decide +kernel) (by decide +kernel)
theorem wd_1028 : Cond.selects RX8 yX8_type yX8_type ∈ gw := gw_in 1028 (by decide +kernel) (by decide +kernel)
theorem wd_397 : Cond.code yX7_ford cX7_ford 2 (some .int) ∈ gw := gw_in 397 (by decide +kernel) (by decide +kernel)
theorem wd_394 : Cond.methodLink RL 40 yX7_ford ∈ gw := gw_in 394 (by decide +kernel) (by decide +kernel)
theorem wd_395 : Cond.instanceMethod yX7_ford ∈ gw := gw_in 395 (by decide +kernel) (by decide +kernel)
theorem wd_396 : Cond.selects RX7 yX7_ford yX7_ford ∈ gw := gw_in 396 (by decide +kernel) (by decide +kernel)
theorem wd_1035 : Cond.code yX8_ford cX8_ford 4 (some .int) ∈ gw := gw_in 1035 (by decide +kernel) (by decide +kernel)
theorem wd_1032 : Cond.methodLink RL 44 yX8_ford ∈ gw := gw_in 1032 (by decide +kernel) (by decide +kernel)
theorem wd_1033 : Cond.instanceMethod yX8_ford ∈ gw := gw_in 1033 (by decide +kernel) (by decide +kernel)
theorem wd_1034 : Cond.selects RX8 yX8_ford yX8_ford ∈ gw := gw_in 1034 (by decide +kernel) (by decide +kernel)
theorem wd_551 : Cond.code yX7_count cX7_count 3 (some .int) ∈ gw := gw_in 551 (by decide +kernel) (by decide +kernel)
theorem wd_548 : Cond.methodLink RL 45 yX7_count ∈ gw := gw_in 548 (by decide +kernel) (by decide +kernel)
theorem wd_549 : Cond.instanceMethod yX7_count ∈ gw := gw_in 549 (by decide +kernel) (by decide +kernel)
theorem wd_550 : Cond.selects RX7 yX7_count yX7_count ∈ gw := gw_in 550 (by decide +kernel) (by decide +kernel)
theorem wd_1077 : Cond.code yX8_count cX8_count 2 (some .int) ∈ gw := gw_in 1077 (by decide +kernel) (by decide +kernel)
theorem wd_1074 : Cond.methodLink RL 48 yX8_count ∈ gw := gw_in 1074 (by decide +kernel) (by decide +kernel)
theorem wd_1075 : Cond.instanceMethod yX8_count ∈ gw := gw_in 1075 (by decide +kernel) (by decide +kernel)
theorem wd_1076 : Cond.selects RX8 yX8_count yX8_count ∈ gw := gw_in 1076 (by decide +kernel) (by decide +kernel)
theorem wd_556 : Cond.code yX7_hours cX7_hours 2 (some .int) ∈ gw := gw_in 556 (by decide +kernel) (by decide +kernel)
theorem wd_553 : Cond.methodLink RL 49 yX7_hours ∈ gw := gw_in 553 (by decide +kernel) (by decide +kernel)
theorem wd_554 : Cond.instanceMethod yX7_hours ∈ gw := gw_in 554 (by decide +kernel) (by decide +kernel)
theorem wd_555 : Cond.selects RX7 yX7_hours yX7_hours ∈ gw := gw_in 555 (by decide +kernel) (by decide +kernel)
theorem wd_1085 : Cond.code yX8_hours cX8_hours 3 (some .int) ∈ gw := gw_in 1085 (by decide +kernel) (by decide +kernel)
theorem wd_1082 : Cond.methodLink RL 52 yX8_hours ∈ gw := gw_in 1082 (by decide +kernel) (by decide +kernel)
theorem wd_1083 : Cond.instanceMethod yX8_hours ∈ gw := gw_in 1083 (by decide +kernel) (by decide +kernel)
theorem wd_1084 : Cond.selects RX8 yX8_hours yX8_hours ∈ gw := gw_in 1084 (by decide +kernel) (by decide +kernel)
theorem wd_594 : Cond.code yX7_teach cX7_teach 4 (some .int) ∈ gw := gw_in 594 (by decide +kernel) (by decide +kernel)
theorem wd_591 : Cond.methodLink RL 53 yX7_teach ∈ gw := gw_in 591 (by decide +kernel) (by decide +kernel)
theorem wd_592 : Cond.instanceMethod yX7_teach ∈ gw := gw_in 592 (by decide +kernel) (by decide +kernel)
theorem wd_593 : Cond.selects RX7 yX7_teach yX7_teach ∈ gw := gw_in 593 (by decide +kernel) (by decide +kernel)
theorem wd_1109 : Cond.code yX8_teach cX8_teach 3 (some .int) ∈ gw := gw_in 1109 (by decide +kernel) (by decide +kernel)
theorem wd_1106 : Cond.methodLink RL 56 yX8_teach ∈ gw := gw_in 1106 (by decide +kernel) (by decide +kernel)
theorem wd_1107 : Cond.instanceMethod yX8_teach ∈ gw := gw_in 1107 (by decide +kernel) (by decide +kernel)
theorem wd_1108 : Cond.selects RX8 yX8_teach yX8_teach ∈ gw := gw_in 1108 (by decide +kernel) (by decide +kernel)
theorem wd_599 : Cond.code yX7_later cX7_later 5 (some .int) ∈ gw := gw_in 599 (by decide +kernel) (by decide +kernel)
theorem wd_596 : Cond.methodLink RL 57 yX7_later ∈ gw := gw_in 596 (by decide +kernel) (by decide +kernel)
theorem wd_597 : Cond.instanceMethod yX7_later ∈ gw := gw_in 597 (by decide +kernel) (by decide +kernel)
theorem wd_598 : Cond.selects RX7 yX7_later yX7_later ∈ gw := gw_in 598 (by decide +kernel) (by decide +kernel)
theorem wd_1113 : Cond.code yX8_later cX8_later 4 (some .int) ∈ gw := gw_in 1113 (by decide +kernel) (by decide +kernel)
theorem wd_1110 : Cond.methodLink RL 60 yX8_later ∈ gw := gw_in 1110 (by decide +kernel) (by decide +kernel)
theorem wd_1111 : Cond.instanceMethod yX8_later ∈ gw := gw_in 1111 (by decide +kernel) (by decide +kernel)
theorem wd_1112 : Cond.selects RX8 yX8_later yX8_later ∈ gw := gw_in 1112 (by decide +kernel) (by decide +kernel)
theorem wd_603 : Cond.code yX7_again cX7_again 3 (some .int) ∈ gw := gw_in 603 (by decide +kernel) (by decide +kernel)
theorem wd_600 : Cond.methodLink RL 61 yX7_again ∈ gw := gw_in 600 (by decide +kernel) (by decide +kernel)
theorem wd_601 : Cond.instanceMethod yX7_again ∈ gw := gw_in 601 (by decide +kernel) (by decide +kernel)
theorem wd_602 : Cond.selects RX7 yX7_again yX7_again ∈ gw := gw_in 602 (by decide +kernel) (by decide +kernel)
theorem wd_1117 : Cond.code yX8_again cX8_again 2 (some .int) ∈ gw := gw_in 1117 (by decide +kernel) (by decide +kernel)
theorem wd_1114 : Cond.methodLink RL 64 yX8_again ∈ gw := gw_in 1114 (by decide +kernel) (by decide +kernel)
theorem wd_1115 : Cond.instanceMethod yX8_again ∈ gw := gw_in 1115 (by decide +kernel) (by decide +kernel)
theorem wd_1116 : Cond.selects RX8 yX8_again yX8_again ∈ gw := gw_in 1116 (by decide +kernel) (by decide +kernel)
theorem wd_608 : Cond.code yX7_put cX7_put 5 (some .int) ∈ gw := gw_in 608 (by decide +kernel) (by decide +kernel)
theorem wd_605 : Cond.methodLink RL 65 yX7_put ∈ gw := gw_in 605 (by decide +kernel) (by decide +kernel)
theorem wd_606 : Cond.instanceMethod yX7_put ∈ gw := gw_in 606 (by decide +kernel) (by decide +kernel)
theorem wd_607 : Cond.selects RX7 yX7_put yX7_put ∈ gw := gw_in 607 (by decide +kernel) (by decide +kernel)
theorem wd_1121 : Cond.code yX8_put cX8_put 4 (some .int) ∈ gw := gw_in 1121 (by decide +kernel) (by decide +kernel)
theorem wd_1118 : Cond.methodLink RL 68 yX8_put ∈ gw := gw_in 1118 (by decide +kernel) (by decide +kernel)
theorem wd_1119 : Cond.instanceMethod yX8_put ∈ gw := gw_in 1119 (by decide +kernel) (by decide +kernel)
theorem wd_1120 : Cond.selects RX8 yX8_put yX8_put ∈ gw := gw_in 1120 (by decide +kernel) (by decide +kernel)
theorem wd_612 : Cond.code yX7_drift cX7_drift 2 (some .int) ∈ gw := gw_in 612 (by decide +kernel) (by decide +kernel)
theorem wd_609 : Cond.methodLink RL 69 yX7_drift ∈ gw := gw_in 609 (by decide +kernel) (by decide +kernel)
theorem wd_610 : Cond.instanceMethod yX7_drift ∈ gw := gw_in 610 (by decide +kernel) (by decide +kernel)
theorem wd_611 : Cond.selects RX7 yX7_drift yX7_drift ∈ gw := gw_in 611 (by decide +kernel) (by decide +kernel)
theorem wd_1125 : Cond.code yX8_drift cX8_drift 4 (some .int) ∈ gw := gw_in 1125 (by decide +kernel) (by decide +kernel)
theorem wd_1122 : Cond.methodLink RL 72 yX8_drift ∈ gw := gw_in 1122 (by decide +kernel) (by decide +kernel)
theorem wd_1123 : Cond.instanceMethod yX8_drift ∈ gw := gw_in 1123 (by decide +kernel) (by decide +kernel)
theorem wd_1124 : Cond.selects RX8 yX8_drift yX8_drift ∈ gw := gw_in 1124 (by decide +kernel) (by decide +kernel)
theorem wd_616 : Cond.code yX7_undo cX7_undo 1 (some .int) ∈ gw := gw_in 616 (by decide +kernel) (by decide +kernel)
theorem wd_613 : Cond.methodLink RL 73 yX7_undo ∈ gw := gw_in 613 (by decide +kernel) (by decide +kernel)
theorem wd_614 : Cond.instanceMethod yX7_undo ∈ gw := gw_in 614 (by decide +kernel) (by decide +kernel)
theorem wd_615 : Cond.selects RX7 yX7_undo yX7_undo ∈ gw := gw_in 615 (by decide +kernel) (by decide +kernel)
theorem wd_1133 : Cond.code yX8_undo cX8_undo 2 (some .int) ∈ gw := gw_in 1133 (by decide +kernel) (by decide +kernel)
theorem wd_1130 : Cond.methodLink RL 76 yX8_undo ∈ gw := gw_in 1130 (by decide +kernel) (by decide +kernel)
theorem wd_1131 : Cond.instanceMethod yX8_undo ∈ gw := gw_in 1131 (by decide +kernel) (by decide +kernel)
theorem wd_1132 : Cond.selects RX8 yX8_undo yX8_undo ∈ gw := gw_in 1132 (by decide +kernel) (by decide +kernel)
theorem wd_624 : Cond.code yX7_seed cX7_seed 3 (some .int) ∈ gw := gw_in 624 (by decide +kernel) (by decide +kernel)
theorem wd_621 : Cond.methodLink RL 77 yX7_seed ∈ gw := gw_in 621 (by decide +kernel) (by decide +kernel)
theorem wd_622 : Cond.instanceMethod yX7_seed ∈ gw := gw_in 622 (by decide +kernel) (by decide +kernel)
theorem wd_623 : Cond.selects RX7 yX7_seed yX7_seed ∈ gw := gw_in 623 (by decide +kernel) (by decide +kernel)
theorem wd_1137 : Cond.code yX8_seed cX8_seed 3 (some .int) ∈ gw := gw_in 1137 (by decide +kernel) (by decide +kernel)
theorem wd_1134 : Cond.methodLink RL 80 yX8_seed ∈ gw := gw_in 1134 (by decide +kernel) (by decide +kernel)
theorem wd_1135 : Cond.instanceMethod yX8_seed ∈ gw := gw_in 1135 (by decide +kernel) (by decide +kernel)
theorem wd_1136 : Cond.selects RX8 yX8_seed yX8_seed ∈ gw := gw_in 1136 (by decide +kernel) (by decide +kernel)
theorem wd_628 : Cond.code yX7_then cX7_then 4 (some .int) ∈ gw := gw_in 628 (by decide +kernel) (by decide +kernel)
theorem wd_625 : Cond.methodLink RL 81 yX7_then ∈ gw := gw_in 625 (by decide +kernel) (by decide +kernel)
theorem wd_626 : Cond.instanceMethod yX7_then ∈ gw := gw_in 626 (by decide +kernel) (by decide +kernel)
theorem wd_627 : Cond.selects RX7 yX7_then yX7_then ∈ gw := gw_in 627 (by decide +kernel) (by decide +kernel)
theorem wd_1141 : Cond.code yX8_then cX8_then 3 (some .int) ∈ gw := gw_in 1141 (by decide +kernel) (by decide +kernel)
theorem wd_1138 : Cond.methodLink RL 84 yX8_then ∈ gw := gw_in 1138 (by decide +kernel) (by decide +kernel)
theorem wd_1139 : Cond.instanceMethod yX8_then ∈ gw := gw_in 1139 (by decide +kernel) (by decide +kernel)
theorem wd_1140 : Cond.selects RX8 yX8_then yX8_then ∈ gw := gw_in 1140 (by decide +kernel) (by decide +kernel)
theorem wd_642 : Cond.code yX7_crosses cX7_crosses 2 (some .int) ∈ gw := gw_in 642 (by decide +kernel) (by decide +kernel)
theorem wd_639 : Cond.methodLink RL 85 yX7_crosses ∈ gw := gw_in 639 (by decide +kernel) (by decide +kernel)
theorem wd_640 : Cond.instanceMethod yX7_crosses ∈ gw := gw_in 640 (by decide +kernel) (by decide +kernel)
theorem wd_641 : Cond.selects RX7 yX7_crosses yX7_crosses ∈ gw := gw_in 641 (by decide +kernel) (by decide +kernel)
theorem wd_1150 : Cond.code yX8_crosses cX8_crosses 2 (some .int) ∈ gw := gw_in 1150 (by decide +kernel) (by decide +kernel)
theorem wd_1147 : Cond.methodLink RL 88 yX8_crosses ∈ gw := gw_in 1147 (by decide +kernel) (by decide +kernel)
theorem wd_1148 : Cond.instanceMethod yX8_crosses ∈ gw := gw_in 1148 (by decide +kernel) (by decide +kernel)
theorem wd_1149 : Cond.selects RX8 yX8_crosses yX8_crosses ∈ gw := gw_in 1149 (by decide +kernel) (by decide +kernel)
theorem wd_655 : Cond.code yX7_last cX7_last 1 (some .int) ∈ gw := gw_in 655 (by decide +kernel) (by decide +kernel)
theorem wd_652 : Cond.methodLink RL 89 yX7_last ∈ gw := gw_in 652 (by decide +kernel) (by decide +kernel)
theorem wd_653 : Cond.instanceMethod yX7_last ∈ gw := gw_in 653 (by decide +kernel) (by decide +kernel)
theorem wd_654 : Cond.selects RX7 yX7_last yX7_last ∈ gw := gw_in 654 (by decide +kernel) (by decide +kernel)
theorem wd_1158 : Cond.code yX8_last cX8_last 1 (some .int) ∈ gw := gw_in 1158 (by decide +kernel) (by decide +kernel)
theorem wd_1155 : Cond.methodLink RL 92 yX8_last ∈ gw := gw_in 1155 (by decide +kernel) (by decide +kernel)
theorem wd_1156 : Cond.instanceMethod yX8_last ∈ gw := gw_in 1156 (by decide +kernel) (by decide +kernel)
theorem wd_1157 : Cond.selects RX8 yX8_last yX8_last ∈ gw := gw_in 1157 (by decide +kernel) (by decide +kernel)
theorem wd_663 : Cond.code yX7_most cX7_most 2 (some .int) ∈ gw := gw_in 663 (by decide +kernel) (by decide +kernel)
theorem wd_660 : Cond.methodLink RL 93 yX7_most ∈ gw := gw_in 660 (by decide +kernel) (by decide +kernel)
theorem wd_661 : Cond.instanceMethod yX7_most ∈ gw := gw_in 661 (by decide +kernel) (by decide +kernel)
theorem wd_662 : Cond.selects RX7 yX7_most yX7_most ∈ gw := gw_in 662 (by decide +kernel) (by decide +kernel)
theorem wd_1166 : Cond.code yX8_most cX8_most 6 (some .int) ∈ gw := gw_in 1166 (by decide +kernel) (by decide +kernel)
theorem wd_1163 : Cond.methodLink RL 96 yX8_most ∈ gw := gw_in 1163 (by decide +kernel) (by decide +kernel)
theorem wd_1164 : Cond.instanceMethod yX8_most ∈ gw := gw_in 1164 (by decide +kernel) (by decide +kernel)
theorem wd_1165 : Cond.selects RX8 yX8_most yX8_most ∈ gw := gw_in 1165 (by decide +kernel) (by decide +kernel)
theorem wd_676 : Cond.code yX7_best cX7_best 2 (some .int) ∈ gw := gw_in 676 (by decide +kernel) (by decide +kernel)
theorem wd_673 : Cond.methodLink RL 97 yX7_best ∈ gw := gw_in 673 (by decide +kernel) (by decide +kernel)
theorem wd_674 : Cond.instanceMethod yX7_best ∈ gw := gw_in 674 (by decide +kernel) (by decide +kernel)
theorem wd_675 : Cond.selects RX7 yX7_best yX7_best ∈ gw := gw_in 675 (by decide +kernel) (by decide +kernel)
theorem wd_1174 : Cond.code yX8_best cX8_best 9 (some .int) ∈ gw := gw_in 1174 (by decide +kernel) (by decide +kernel)
theorem wd_1171 : Cond.methodLink RL 100 yX8_best ∈ gw := gw_in 1171 (by decide +kernel) (by decide +kernel)
theorem wd_1172 : Cond.instanceMethod yX8_best ∈ gw := gw_in 1172 (by decide +kernel) (by decide +kernel)
theorem wd_1173 : Cond.selects RX8 yX8_best yX8_best ∈ gw := gw_in 1173 (by decide +kernel) (by decide +kernel)
theorem wd_730 : Cond.code yX7_teaches cX7_teaches 2 (some .int) ∈ gw := gw_in 730 (by decide +kernel) (by decide +kernel)
theorem wd_727 : Cond.methodLink RL 101 yX7_teaches ∈ gw := gw_in 727 (by decide +kernel) (by decide +kernel)
theorem wd_728 : Cond.instanceMethod yX7_teaches ∈ gw := gw_in 728 (by decide +kernel) (by decide +kernel)
theorem wd_729 : Cond.selects RX7 yX7_teaches yX7_teaches ∈ gw := gw_in 729 (by decide +kernel) (by decide +kernel)
theorem wd_1194 : Cond.code yX8_teaches cX8_teaches 8 (some .int) ∈ gw := gw_in 1194 (by decide +kernel) (by decide +kernel)
theorem wd_1191 : Cond.methodLink RL 104 yX8_teaches ∈ gw := gw_in 1191 (by decide +kernel) (by decide +kernel)
theorem wd_1192 : Cond.instanceMethod yX8_teaches ∈ gw := gw_in 1192 (by decide +kernel) (by decide +kernel)
theorem wd_1193 : Cond.selects RX8 yX8_teaches yX8_teaches ∈ gw := gw_in 1193 (by decide +kernel) (by decide +kernel)
theorem wd_749 : Cond.code yX7_spare cX7_spare 2 (some .int) ∈ gw := gw_in 749 (by decide +kernel) (by decide +kernel)
theorem wd_746 : Cond.methodLink RL 105 yX7_spare ∈ gw := gw_in 746 (by decide +kernel) (by decide +kernel)
theorem wd_747 : Cond.instanceMethod yX7_spare ∈ gw := gw_in 747 (by decide +kernel) (by decide +kernel)
theorem wd_748 : Cond.selects RX7 yX7_spare yX7_spare ∈ gw := gw_in 748 (by decide +kernel) (by decide +kernel)
theorem wd_1198 : Cond.code yX8_spare cX8_spare 7 (some .int) ∈ gw := gw_in 1198 (by decide +kernel) (by decide +kernel)
theorem wd_1195 : Cond.methodLink RL 108 yX8_spare ∈ gw := gw_in 1195 (by decide +kernel) (by decide +kernel)
theorem wd_1196 : Cond.instanceMethod yX8_spare ∈ gw := gw_in 1196 (by decide +kernel) (by decide +kernel)
theorem wd_1197 : Cond.selects RX8 yX8_spare yX8_spare ∈ gw := gw_in 1197 (by decide +kernel) (by decide +kernel)
theorem wd_758 : Cond.code yX7_before cX7_before 2 (some .int) ∈ gw := gw_in 758 (by decide +kernel) (by decide +kernel)
theorem wd_755 : Cond.methodLink RL 109 yX7_before ∈ gw := gw_in 755 (by decide +kernel) (by decide +kernel)
theorem wd_756 : Cond.instanceMethod yX7_before ∈ gw := gw_in 756 (by decide +kernel) (by decide +kernel)
theorem wd_757 : Cond.selects RX7 yX7_before yX7_before ∈ gw := gw_in 757 (by decide +kernel) (by decide +kernel)
theorem wd_1202 : Cond.code yX8_before cX8_before 7 (some .int) ∈ gw := gw_in 1202 (by decide +kernel) (by decide +kernel)
theorem wd_1199 : Cond.methodLink RL 112 yX8_before ∈ gw := gw_in 1199 (by decide +kernel) (by decide +kernel)
theorem wd_1200 : Cond.instanceMethod yX8_before ∈ gw := gw_in 1200 (by decide +kernel) (by decide +kernel)
theorem wd_1201 : Cond.selects RX8 yX8_before yX8_before ∈ gw := gw_in 1201 (by decide +kernel) (by decide +kernel)
theorem wd_766 : Cond.code yX7_cramp cX7_cramp 9 (some .int) ∈ gw := gw_in 766 (by decide +kernel) (by decide +kernel)
theorem wd_763 : Cond.methodLink RL 113 yX7_cramp ∈ gw := gw_in 763 (by decide +kernel) (by decide +kernel)
theorem wd_764 : Cond.instanceMethod yX7_cramp ∈ gw := gw_in 764 (by decide +kernel) (by decide +kernel)
theorem wd_765 : Cond.selects RX7 yX7_cramp yX7_cramp ∈ gw := gw_in 765 (by decide +kernel) (by decide +kernel)
theorem wd_1206 : Cond.code yX8_cramp cX8_cramp 12 (some .int) ∈ gw := gw_in 1206 (by decide +kernel) (by decide +kernel)
theorem wd_1203 : Cond.methodLink RL 116 yX8_cramp ∈ gw := gw_in 1203 (by decide +kernel) (by decide +kernel)
theorem wd_1204 : Cond.instanceMethod yX8_cramp ∈ gw := gw_in 1204 (by decide +kernel) (by decide +kernel)
theorem wd_1205 : Cond.selects RX8 yX8_cramp yX8_cramp ∈ gw := gw_in 1205 (by decide +kernel) (by decide +kernel)
theorem wd_784 : Cond.code yX7_image cX7_image 1 (some .int) ∈ gw := gw_in 784 (by decide +kernel) (by decide +kernel)
theorem wd_781 : Cond.methodLink RL 117 yX7_image ∈ gw := gw_in 781 (by decide +kernel) (by decide +kernel)
theorem wd_782 : Cond.instanceMethod yX7_image ∈ gw := gw_in 782 (by decide +kernel) (by decide +kernel)
theorem wd_783 : Cond.selects RX7 yX7_image yX7_image ∈ gw := gw_in 783 (by decide +kernel) (by decide +kernel)
theorem wd_1212 : Cond.code yX8_image cX8_image 2 (some .int) ∈ gw := gw_in 1212 (by decide +kernel) (by decide +kernel)
theorem wd_1209 : Cond.methodLink RL 120 yX8_image ∈ gw := gw_in 1209 (by decide +kernel) (by decide +kernel)
theorem wd_1210 : Cond.instanceMethod yX8_image ∈ gw := gw_in 1210 (by decide +kernel) (by decide +kernel)
theorem wd_1211 : Cond.selects RX8 yX8_image yX8_image ∈ gw := gw_in 1211 (by decide +kernel) (by decide +kernel)
theorem wd_792 : Cond.code yX7_restore cX7_restore 1 (some .int) ∈ gw := gw_in 792 (by decide +kernel) (by decide +kernel)
theorem wd_789 : Cond.methodLink RL 121 yX7_restore ∈ gw := gw_in 789 (by decide +kernel) (by decide +kernel)
theorem wd_790 : Cond.instanceMethod yX7_restore ∈ gw := gw_in 790 (by decide +kernel) (by decide +kernel)
theorem wd_791 : Cond.selects RX7 yX7_restore yX7_restore ∈ gw := gw_in 791 (by decide +kernel) (by decide +kernel)
theorem wd_1216 : Cond.code yX8_restore cX8_restore 2 (some .int) ∈ gw := gw_in 1216 (by decide +kernel) (by decide +kernel)
theorem wd_1213 : Cond.methodLink RL 124 yX8_restore ∈ gw := gw_in 1213 (by decide +kernel) (by decide +kernel)
theorem wd_1214 : Cond.instanceMethod yX8_restore ∈ gw := gw_in 1214 (by decide +kernel) (by decide +kernel)
theorem wd_1215 : Cond.selects RX8 yX8_restore yX8_restore ∈ gw := gw_in 1215 (by decide +kernel) (by decide +kernel)
theorem wd_796 : Cond.code yX7_seen cX7_seen 9 (some .int) ∈ gw := gw_in 796 (by decide +kernel) (by decide +kernel)
theorem wd_793 : Cond.methodLink RL 125 yX7_seen ∈ gw := gw_in 793 (by decide +kernel) (by decide +kernel)
theorem wd_794 : Cond.instanceMethod yX7_seen ∈ gw := gw_in 794 (by decide +kernel) (by decide +kernel)
theorem wd_795 : Cond.selects RX7 yX7_seen yX7_seen ∈ gw := gw_in 795 (by decide +kernel) (by decide +kernel)
theorem wd_1220 : Cond.code yX8_seen cX8_seen 12 (some .int) ∈ gw := gw_in 1220 (by decide +kernel) (by decide +kernel)
theorem wd_1217 : Cond.methodLink RL 129 yX8_seen ∈ gw := gw_in 1217 (by decide +kernel) (by decide +kernel)
theorem wd_1218 : Cond.instanceMethod yX8_seen ∈ gw := gw_in 1218 (by decide +kernel) (by decide +kernel)
theorem wd_1219 : Cond.selects RX8 yX8_seen yX8_seen ∈ gw := gw_in 1219 (by decide +kernel) (by decide +kernel)
theorem wd_830 : Cond.code yX7_film cX7_film 7 (some .int) ∈ gw := gw_in 830 (by decide +kernel) (by decide +kernel)
theorem wd_827 : Cond.methodLink RL 130 yX7_film ∈ gw := gw_in 827 (by decide +kernel) (by decide +kernel)
theorem wd_828 : Cond.instanceMethod yX7_film ∈ gw := gw_in 828 (by decide +kernel) (by decide +kernel)
theorem wd_829 : Cond.selects RX7 yX7_film yX7_film ∈ gw := gw_in 829 (by decide +kernel) (by decide +kernel)
theorem wd_1248 : Cond.code yX8_film cX8_film 7 (some .int) ∈ gw := gw_in 1248 (by decide +kernel) (by decide +kernel)
theorem wd_1245 : Cond.methodLink RL 134 yX8_film ∈ gw := gw_in 1245 (by decide +kernel) (by decide +kernel)
theorem wd_1246 : Cond.instanceMethod yX8_film ∈ gw := gw_in 1246 (by decide +kernel) (by decide +kernel)
theorem wd_1247 : Cond.selects RX8 yX8_film yX8_film ∈ gw := gw_in 1247 (by decide +kernel) (by decide +kernel)
theorem wd_846 : Cond.code yX7_sheet cX7_sheet 4 (some .int) ∈ gw := gw_in 846 (by decide +kernel) (by decide +kernel)
theorem wd_843 : Cond.methodLink RL 135 yX7_sheet ∈ gw := gw_in 843 (by decide +kernel) (by decide +kernel)
theorem wd_844 : Cond.instanceMethod yX7_sheet ∈ gw := gw_in 844 (by decide +kernel) (by decide +kernel)
theorem wd_845 : Cond.selects RX7 yX7_sheet yX7_sheet ∈ gw := gw_in 845 (by decide +kernel) (by decide +kernel)
theorem wd_1253 : Cond.code yX8_sheet cX8_sheet 5 (some .int) ∈ gw := gw_in 1253 (by decide +kernel) (by decide +kernel)
theorem wd_1250 : Cond.methodLink RL 138 yX8_sheet ∈ gw := gw_in 1250 (by decide +kernel) (by decide +kernel)
theorem wd_1251 : Cond.instanceMethod yX8_sheet ∈ gw := gw_in 1251 (by decide +kernel) (by decide +kernel)
theorem wd_1252 : Cond.selects RX8 yX8_sheet yX8_sheet ∈ gw := gw_in 1252 (by decide +kernel) (by decide +kernel)
theorem wd_857 : Cond.code yX7_drop cX7_drop 2 (some .int) ∈ gw := gw_in 857 (by decide +kernel) (by decide +kernel)
theorem wd_854 : Cond.methodLink RL 139 yX7_drop ∈ gw := gw_in 854 (by decide +kernel) (by decide +kernel)
theorem wd_855 : Cond.instanceMethod yX7_drop ∈ gw := gw_in 855 (by decide +kernel) (by decide +kernel)
theorem wd_856 : Cond.selects RX7 yX7_drop yX7_drop ∈ gw := gw_in 856 (by decide +kernel) (by decide +kernel)
theorem wd_1257 : Cond.code yX8_drop cX8_drop 3 (some .int) ∈ gw := gw_in 1257 (by decide +kernel) (by decide +kernel)
theorem wd_1254 : Cond.methodLink RL 142 yX8_drop ∈ gw := gw_in 1254 (by decide +kernel) (by decide +kernel)
theorem wd_1255 : Cond.instanceMethod yX8_drop ∈ gw := gw_in 1255 (by decide +kernel) (by decide +kernel)
theorem wd_1256 : Cond.selects RX8 yX8_drop yX8_drop ∈ gw := gw_in 1256 (by decide +kernel) (by decide +kernel)
theorem wd_1266 : Cond.constantLong RL 143 (4294967295) ∈ gw := gw_in 1266 (by decide +kernel) (by decide +kernel)
theorem wd_866 : Cond.code yX7_item cX7_item 7 (some .int) ∈ gw := gw_in 866 (by decide +kernel) (by decide +kernel)
theorem wd_863 : Cond.methodLink RL 145 yX7_item ∈ gw := gw_in 863 (by decide +kernel) (by decide +kernel)
theorem wd_864 : Cond.instanceMethod yX7_item ∈ gw := gw_in 864 (by decide +kernel) (by decide +kernel)
theorem wd_865 : Cond.selects RX7 yX7_item yX7_item ∈ gw := gw_in 865 (by decide +kernel) (by decide +kernel)
theorem wd_1261 : Cond.code yX8_item cX8_item 7 (some .int) ∈ gw := gw_in 1261 (by decide +kernel) (by decide +kernel)
theorem wd_1258 : Cond.methodLink RL 149 yX8_item ∈ gw := gw_in 1258 (by decide +kernel) (by decide +kernel)
theorem wd_1259 : Cond.instanceMethod yX8_item ∈ gw := gw_in 1259 (by decide +kernel) (by decide +kernel)
theorem wd_1260 : Cond.selects RX8 yX8_item yX8_item ∈ gw := gw_in 1260 (by decide +kernel) (by decide +kernel)
theorem wd_871 : Cond.code yX7_copy cX7_copy 8 (some .int) ∈ gw := gw_in 871 (by decide +kernel) (by decide +kernel)
theorem wd_868 : Cond.methodLink RL 150 yX7_copy ∈ gw := gw_in 868 (by decide +kernel) (by decide +kernel)
theorem wd_869 : Cond.instanceMethod yX7_copy ∈ gw := gw_in 869 (by decide +kernel) (by decide +kernel)
theorem wd_870 : Cond.selects RX7 yX7_copy yX7_copy ∈ gw := gw_in 870 (by decide +kernel) (by decide +kernel)
theorem wd_1265 : Cond.code yX8_copy cX8_copy 8 (some .int) ∈ gw := gw_in 1265 (by decide +kernel) (by decide +kernel)
theorem wd_1262 : Cond.methodLink RL 154 yX8_copy ∈ gw := gw_in 1262 (by decide +kernel) (by decide +kernel)
theorem wd_1263 : Cond.instanceMethod yX8_copy ∈ gw := gw_in 1263 (by decide +kernel) (by decide +kernel)
theorem wd_1264 : Cond.selects RX8 yX8_copy yX8_copy ∈ gw := gw_in 1264 (by decide +kernel) (by decide +kernel)
def R_law : String := "FordQuestionsLaw"
def lw_P (b : Addr) (xs : List Int32) (args : Array Value) (s : State) : Prop := args = #[.ref b] ∧ s.IntsAt b xs ∧ xs.length ≤ 3584 ∧ (Jvm.Cond.and given_1 narrow_1).before args s = true
def lw_Q (_ : Array Value) (s : State) (o : Outcome) (t : State) : Prop := o = .returned (some (.int 1)) ∧ Framed s o t [] 600000 7302250
def lw_Z (below : List Frame) (a : Array Value) (s : State) : State → Prop := fun t => ∃ o, t.status = .running ∧ Ended t below o ∧ lw_Q a s o t
/-- the law's own end, with 1 on the stack, nothing written that was there before, its room as the claim has it -/
theorem lw_ret {p : Program} {l : Launch} {e : Env} {s : State} {m : MethodId} {below : List Frame} {meth : Method} {c : Code} {b : Nat} (hx : p.tables.exec = Jvm.exec) (hb : c.code = code) (hr : meth.sig.returnType = ret) (hlocks : meth.locks = false) {pc : Nat} {H : Heap} {ls : Array Slot} (hdg : decode code pc = .ok (.ireturn, 1)) : W p l e room_1 s m #[Value.ref b] below meth c H [] 600000 7302250 (lw_Z below #[Value.ref b] s) (F0 m pc ls [.int 1]) := by
  intro T hT X
  obtain ⟨fs, hret, hrun, hended, hW, hframe⟩ := X.leave (v := some (.int 1)) (hlocks := hlocks) (fun h => by rw [hr] at h; cases h)
  have hmeth' : T.vm.method? m = some meth := X.method'
  refine ⟨T.setFrames fs, ?_, .returned (some (.int 1)), hrun, hended, rfl, ⟨_, rfl⟩, hW, hframe⟩
  jvm_step X.here [X.here.top, hx, hb, hdg, hmeth', hr, ret, narrow_b1]
  (try refine ⟨rfl, ?_⟩); (try refine ⟨rfl, ?_⟩)
  first | (intro acts; rw [hret _ acts rfl rfl rfl]) | rw [hret _ _ rfl rfl rfl]
  exact Steps.refl _
/-- what holds at the law's entry: the machine, the code, the tables' words (any of lw_tbl by 'hts w (by decide +kernel)'), the script of L ints xs at the cell b, what the Statement gives of the start (any of its parts by flat_of_before) -/
def lw_At (p : Program) (s : State) (m : MethodId) (meth : Method) (c : Code) (b L : Nat) (xs : Nat → Int32) : Prop :=
  p.tables.exec = Jvm.exec ∧ c.code = code ∧ meth.sig.returnType = ret ∧ c.maxLocals = 4 ∧ s.vm.findClass R_law = some m.cls ∧ (∀ w ∈ lw_tbl, w.before #[Value.ref b] s = true) ∧ va_X b L xs s s.heap ∧ b < s.heap.size ∧ meth.locks = false ∧ (Jvm.Cond.and given_1 narrow_1).before #[Value.ref b] s = true
theorem la_in {i L k : Nat} {x : Int32} (hi : i + 7 ≤ L) (hk : k < 7) (hL : L ≤ 3584) (hx : x = nI i + nI k) : vp_in x L := by
  rw [hx, nI_add]
  exact vp_in_nI (by omega) (by omega)
theorem la_in0 {i L : Nat} (hi : i + 7 ≤ L) (hL : L ≤ 3584) : vp_in (nI i) L := vp_in_nI (by omega) (by omega)
theorem la_end {i L : Nat} (hL : L ≤ 3584) (hi : i ≤ L + 6) : (nI L - 7 < nI i) ↔ L < i + 7 := by
  have e : (nI L - nI 7).toInt = (L : Int) - (7 : Nat) := pk_sub_toInt (by omega) (by omega)
  have e7 : (7 : Int32) = nI 7 := rfl
  rw [e7, Int32.lt_iff_toInt_lt, e, nI_toInt (by omega)]
  omega
def St (Rel : Mm → Mm → Prop) (x y : Option (Int32 × Mm)) : Prop := ∃ (r : Int32) (u v : Mm), x = some (r, u) ∧ y = some (r, v) ∧ Rel u v
def Op_question (N : Nat) (Rel : Mm → Mm → Prop) : Prop := ∀ (u v : Mm), Rel u v → ∀ (a0 : Int32) (a1 : Int32), St Rel (f_X7_question a0 a1 u) (f_X8_question a0 a1 v)
def Op_crosser (N : Nat) (Rel : Mm → Mm → Prop) : Prop := ∀ (u v : Mm), Rel u v → ∀ (a0 : Int32) (a1 : Int32) (a2 : Int32), St Rel (f_X7_crosser a0 a1 a2 u) (f_X8_crosser a0 a1 a2 v)
def Op_of (N : Nat) (Rel : Mm → Mm → Prop) : Prop := ∀ (u v : Mm), Rel u v → ∀ (a0 : Int32) (a1 : Int32), St Rel (f_X7_of a0 a1 u) (f_X8_of a0 a1 v)
def Op_at (N : Nat) (Rel : Mm → Mm → Prop) : Prop := ∀ (u v : Mm), Rel u v → ∀ (a0 : Int32) (a1 : Int32), St Rel (f_X7_at a0 a1 u) (f_X8_at a0 a1 v)
def Op_takes (N : Nat) (Rel : Mm → Mm → Prop) : Prop := ∀ (u v : Mm), Rel u v → ∀ (a0 : Int32) (a1 : Int32), St Rel (f_X7_takes N a0 a1 u) (f_X8_takes N a0 a1 v)
def Op_type (N : Nat) (Rel : Mm → Mm → Prop) : Prop := ∀ (u v : Mm), Rel u v → ∀ (a0 : Int32), St Rel (f_X7_type a0 u) (f_X8_type a0 v)
def Op_ford (N : Nat) (Rel : Mm → Mm → Prop) : Prop := ∀ (u v : Mm), Rel u v → St Rel (f_X7_ford N u) (f_X8_ford N v)
def Op_count (N : Nat) (Rel : Mm → Mm → Prop) : Prop := ∀ (u v : Mm), Rel u v → ∀ (a0 : Int32), St Rel (f_X7_count N a0 u) (f_X8_count N a0 v)
def Op_hours (N : Nat) (Rel : Mm → Mm → Prop) : Prop := ∀ (u v : Mm), Rel u v → ∀ (a0 : Int32), St Rel (f_X7_hours N a0 u) (f_X8_hours N a0 v)
def Op_teach (N : Nat) (Rel : Mm → Mm → Prop) : Prop := ∀ (u v : Mm), Rel u v → ∀ (a0 : Int32) (a1 : Int32), St Rel (f_X7_teach a0 a1 u) (f_X8_teach N a0 a1 v)
def Op_later (N : Nat) (Rel : Mm → Mm → Prop) : Prop := ∀ (u v : Mm), Rel u v → ∀ (a0 : Int32) (a1 : Int32), St Rel (f_X7_later a0 a1 u) (f_X8_later N a0 a1 v)
def Op_again (N : Nat) (Rel : Mm → Mm → Prop) : Prop := ∀ (u v : Mm), Rel u v → ∀ (a0 : Int32), St Rel (f_X7_again a0 u) (f_X8_again N a0 v)
def Op_put (N : Nat) (Rel : Mm → Mm → Prop) : Prop := ∀ (u v : Mm), Rel u v → ∀ (a0 : Int32) (a1 : Int32), St Rel (f_X7_put a0 a1 u) (f_X8_put N a0 a1 v)
def Op_drift (N : Nat) (Rel : Mm → Mm → Prop) : Prop := ∀ (u v : Mm), Rel u v → ∀ (a0 : Int32), St Rel (f_X7_drift N a0 u) (f_X8_drift N a0 v)
def Op_undo (N : Nat) (Rel : Mm → Mm → Prop) : Prop := ∀ (u v : Mm), Rel u v → St Rel (f_X7_undo u) (f_X8_undo N v)
def Op_seed (N : Nat) (Rel : Mm → Mm → Prop) : Prop := ∀ (u v : Mm), Rel u v → ∀ (a0 : Int32), St Rel (f_X7_seed a0 u) (f_X8_seed a0 v)
def Op_then (N : Nat) (Rel : Mm → Mm → Prop) : Prop := ∀ (u v : Mm), Rel u v → ∀ (a0 : Int32) (a1 : Int32), St Rel (f_X7_then N a0 a1 u) (f_X8_then N a0 a1 v)
def Op_crosses (N : Nat) (Rel : Mm → Mm → Prop) : Prop := ∀ (u v : Mm), Rel u v → ∀ (a0 : Int32), St Rel (f_X7_crosses N a0 u) (f_X8_crosses N a0 v)
def Op_last (N : Nat) (Rel : Mm → Mm → Prop) : Prop := ∀ (u v : Mm), Rel u v → St Rel (f_X7_last N u) (f_X8_last N v)
def Op_most (N : Nat) (Rel : Mm → Mm → Prop) : Prop := ∀ (u v : Mm), Rel u v → ∀ (a0 : Int32), St Rel (f_X7_most N a0 u) (f_X8_most N a0 v)
def Op_best (N : Nat) (Rel : Mm → Mm → Prop) : Prop := ∀ (u v : Mm), Rel u v → ∀ (a0 : Int32), St Rel (f_X7_best N a0 u) (f_X8_best N a0 v)
def Op_teaches (N : Nat) (Rel : Mm → Mm → Prop) : Prop := ∀ (u v : Mm), Rel u v → ∀ (a0 : Int32), St Rel (f_X7_teaches N a0 u) (f_X8_teaches N a0 v)
def Op_spare (N : Nat) (Rel : Mm → Mm → Prop) : Prop := ∀ (u v : Mm), Rel u v → ∀ (a0 : Int32), St Rel (f_X7_spare N a0 u) (f_X8_spare N a0 v)
def Op_before (N : Nat) (Rel : Mm → Mm → Prop) : Prop := ∀ (u v : Mm), Rel u v → ∀ (a0 : Int32), St Rel (f_X7_before N a0 u) (f_X8_before N a0 v)
def Op_cramp (N : Nat) (Rel : Mm → Mm → Prop) : Prop := ∀ (u v : Mm), Rel u v → ∀ (a0 : Int32) (a1 : Int32) (a2 : Int32), St Rel (f_X7_cramp N a0 a1 a2 u) (f_X8_cramp N a0 a1 a2 v)
def Op_image (N : Nat) (Rel : Mm → Mm → Prop) : Prop := ∀ (u v : Mm), Rel u v → St Rel (f_X7_image N u) (f_X8_image N v)
def Op_restore (N : Nat) (Rel : Mm → Mm → Prop) : Prop := ∀ (u v : Mm), Rel u v → St Rel (f_X7_restore N u) (f_X8_restore N v)
def Op_seen (N : Nat) (Rel : Mm → Mm → Prop) : Prop := ∀ (u v : Mm), Rel u v → ∀ (a0 : Int32) (a1 : Int32) (a2 : Int32) (a3 : Int32) (a4 : Int32) (a5 : Int32), St Rel (f_X7_seen N a0 a1 a2 a3 a4 a5 u) (f_X8_seen N a0 a1 a2 a3 a4 a5 v)
def Op_film (N : Nat) (Rel : Mm → Mm → Prop) : Prop := ∀ (u v : Mm), Rel u v → ∀ (a0 : Int32) (a1 : Int32) (a2 : Int32) (a3 : Int32), St Rel (f_X7_film N a0 a1 a2 a3 u) (f_X8_film N a0 a1 a2 a3 v)
def Op_sheet (N : Nat) (Rel : Mm → Mm → Prop) : Prop := ∀ (u v : Mm), Rel u v → ∀ (a0 : Int32) (a1 : Int32) (a2 : Int32), St Rel (f_X7_sheet N a0 a1 a2 u) (f_X8_sheet N a0 a1 a2 v)
def Op_drop (N : Nat) (Rel : Mm → Mm → Prop) : Prop := ∀ (u v : Mm), Rel u v → ∀ (a0 : Int32), St Rel (f_X7_drop a0 u) (f_X8_drop a0 v)
def Op_item (N : Nat) (Rel : Mm → Mm → Prop) : Prop := ∀ (u v : Mm), Rel u v → ∀ (a0 : Int32) (a1 : Int32) (a2 : Int32) (a3 : Int64), St Rel (f_X7_item a0 a1 a2 a3 u) (f_X8_item a0 a1 a2 a3 v)
def Op_copy (N : Nat) (Rel : Mm → Mm → Prop) : Prop := ∀ (u v : Mm), Rel u v → ∀ (a0 : Int32) (a1 : Int32) (a2 : Int32) (a3 : Int32) (a4 : Int32), St Rel (f_X7_copy a0 a1 a2 a3 a4 u) (f_X8_copy N a0 a1 a2 a3 a4 v)
def Ops (N : Nat) (Rel : Mm → Mm → Prop) : Prop := Op_question N Rel ∧ Op_crosser N Rel ∧ Op_of N Rel ∧ Op_at N Rel ∧ Op_takes N Rel ∧ Op_type N Rel ∧ Op_ford N Rel ∧ Op_count N Rel ∧ Op_hours N Rel ∧ Op_teach N Rel ∧ Op_later N Rel ∧ Op_again N Rel ∧ Op_put N Rel ∧ Op_drift N Rel ∧ Op_undo N Rel ∧ Op_seed N Rel ∧ Op_then N Rel ∧ Op_crosses N Rel ∧ Op_last N Rel ∧ Op_most N Rel ∧ Op_best N Rel ∧ Op_teaches N Rel ∧ Op_spare N Rel ∧ Op_before N Rel ∧ Op_cramp N Rel ∧ Op_image N Rel ∧ Op_restore N Rel ∧ Op_seen N Rel ∧ Op_film N Rel ∧ Op_sheet N Rel ∧ Op_drop N Rel ∧ Op_item N Rel ∧ Op_copy N Rel
set_option maxRecDepth 100000 in
set_option maxHeartbeats 4000000 in
theorem law_question (N : Nat) {Rel : Mm → Mm → Prop} (hop : Op_question N Rel) {p : Program} {l : Launch} {e : Env} {s : State} {m : MethodId} {below : List Frame} {meth : Method} {c : Code} {D : va_G} {cA : Nat → ClassId} {a0 a1 b L : Nat} {xs : Nat → Int32} (hL : L ≤ 3584) (C0 : lw_At p s m meth c b L xs) (hK : XK (D, cA, adL s.heap.size a0 a1) s) (hZC : XZ shC (D, cA, adL s.heap.size a0 a1) s s.heap) (hZR : XZ shR (D, cA, adL s.heap.size a0 a1) s s.heap) {i : Nat} (hi : i + 7 ≤ L) (hnext : ∀ (u v : Mm) (H : Heap) (locs : List Loc) (ls : Array Slot), Rel u v → XP shC (D, cA, adL s.heap.size a0 a1) u H → XP shR (D, cA, adL s.heap.size a0 a1) v H → va_S (CA s.heap.size) s.heap H locs → lv_has ls 4 [(0, .ref b), (1, .ref (adL s.heap.size a0 a1 (3, 0, 0))), (2, .ref (adL s.heap.size a0 a1 (9, 0, 0))), (3, .int (nI i))] → W p l e room_1 s m #[Value.ref b] below meth c H locs 207 2270 (lw_Z below #[Value.ref b] s) (F0 m 1211 ls [])) {u v : Mm} (hrel : Rel u v) {H : Heap} {locs : List Loc} {ls : Array Slot} (hPC : XP shC (D, cA, adL s.heap.size a0 a1) u H) (hPR : XP shR (D, cA, adL s.heap.size a0 a1) v H) (hS : va_S (CA s.heap.size) s.heap H locs) (hl : lv_has ls 4 [(0, .ref b), (1, .ref (adL s.heap.size a0 a1 (3, 0, 0))), (2, .ref (adL s.heap.size a0 a1 (9, 0, 0))), (3, .int (nI i))]) : W p l e room_1 s m #[Value.ref b] below meth c H locs 207 2270 (lw_Z below #[Value.ref b] s) (F0 m 180 ls []) := by
  obtain ⟨hx, hb, hr, hml, hown, hts, hX, hbl, hlocks, hgv⟩ := C0
  have S : CallFix p m c code 4 s #[Value.ref b] lw_tbl RL := ⟨hx, hb, hml, hown, hts⟩
  have hbA : ¬ CA s.heap.size b := Nat.not_le.mpr hbl
  refine lv_aload_n hx hb dL_law_180 rfl (lv_at hl 1 rfl) ?_
  refine lv_aload_n hx hb dL_law_181 rfl (lv_at hl 0 rfl) ?_
  refine lv_iload_n hx hb dL_law_182 rfl (lv_at hl 3 rfl) ?_
  refine lv_iconst (v := 1) hx hb dL_law_183 (by decide) ?_
  refine lv_iadd hx hb dL_law_184 ?_
  refine va_sld (A := CA s.heap.size) hx hb hX hbl hbA hS (la_in (k := 1) hi (by decide) hL rfl) dL_law_185 ?_
  refine lv_aload_n hx hb dL_law_186 rfl (lv_at hl 0 rfl) ?_
  refine lv_iload_n hx hb dL_law_187 rfl (lv_at hl 3 rfl) ?_
  refine lv_iconst (v := 2) hx hb dL_law_188 (by decide) ?_
  refine lv_iadd hx hb dL_law_189 ?_
  refine va_sld (A := CA s.heap.size) hx hb hX hbl hbA hS (la_in (k := 2) hi (by decide) hL rfl) dL_law_190 ?_
  obtain ⟨r, u1, v1, e1, e2, hrel1⟩ := hop u v hrel (xs ((nI i) + 1).toNatClampNeg) (xs ((nI i) + 2).toNatClampNeg)
  refine la_call (sh := shC) (sh' := shR) (a := 3) (b := 0) (k := 0) (ci := 7) (T := TX7) (N := 8) (As := [.int (xs ((nI i) + 1).toNatClampNeg), .int (xs ((nI i) + 2).toNatClampNeg)]) (rest := []) S hK hZC la_subC la_disC hPC hPR hS (c_X7_question l (D, cA, adL s.heap.size a0 a1) (XD_C D cA s.heap.size a0 a1) (xs ((nI i) + 1).toNatClampNeg) (xs ((nI i) + 2).toNatClampNeg) u e1) ⟨wd_315, wd_312, wd_313, wd_314, wd_54⟩ hd_X7_question ⟨by decide, by decide⟩ rfl (kyO (by decide)) rfl rfl hl.1 rfl (Nat.le_of_ble_eq_true rfl) dL_law_191 ⟨by decide, by decide⟩ (fun H locs hPC hPR hS => ?_)
  refine lv_aload_n hx hb dL_law_194 rfl (lv_at hl 2 rfl) ?_
  refine lv_aload_n hx hb dL_law_195 rfl (lv_at hl 0 rfl) ?_
  refine lv_iload_n hx hb dL_law_196 rfl (lv_at hl 3 rfl) ?_
  refine lv_iconst (v := 1) hx hb dL_law_197 (by decide) ?_
  refine lv_iadd hx hb dL_law_198 ?_
  refine va_sld (A := CA s.heap.size) hx hb hX hbl hbA hS (la_in (k := 1) hi (by decide) hL rfl) dL_law_199 ?_
  refine lv_aload_n hx hb dL_law_200 rfl (lv_at hl 0 rfl) ?_
  refine lv_iload_n hx hb dL_law_201 rfl (lv_at hl 3 rfl) ?_
  refine lv_iconst (v := 2) hx hb dL_law_202 (by decide) ?_
  refine lv_iadd hx hb dL_law_203 ?_
  refine va_sld (A := CA s.heap.size) hx hb hX hbl hbA hS (la_in (k := 2) hi (by decide) hL rfl) dL_law_204 ?_
  refine la_call (sh := shR) (sh' := shC) (a := 9) (b := 0) (k := 0) (ci := 8) (T := TX8) (N := 31) (As := [.int (xs ((nI i) + 1).toNatClampNeg), .int (xs ((nI i) + 2).toNatClampNeg)]) (rest := [.int r]) S hK hZR la_subR la_disR hPR hPC hS (c_X8_question l (D, cA, adL s.heap.size a0 a1) (XD_R D cA s.heap.size a0 a1) (xs ((nI i) + 1).toNatClampNeg) (xs ((nI i) + 2).toNatClampNeg) v e2) ⟨wd_977, wd_974, wd_975, wd_976, wd_62⟩ hd_X8_question ⟨by decide, by decide⟩ rfl (kyM (by decide)) rfl rfl hl.1 rfl (Nat.le_of_ble_eq_true rfl) dL_law_205 ⟨by decide, by decide⟩ (fun H locs hPR hPC hS => ?_)
  refine lv_icmp_eq (tgt := 1211) hx hb dL_law_208 (by decide) (fun _ => ?_) (fun h => absurd rfl h)
  exact hnext u1 v1 _ _ _ hrel1 hPC hPR hS hl
set_option maxRecDepth 100000 in
set_option maxHeartbeats 4000000 in
theorem law_crosser (N : Nat) {Rel : Mm → Mm → Prop} (hop : Op_crosser N Rel) {p : Program} {l : Launch} {e : Env} {s : State} {m : MethodId} {below : List Frame} {meth : Method} {c : Code} {D : va_G} {cA : Nat → ClassId} {a0 a1 b L : Nat} {xs : Nat → Int32} (hL : L ≤ 3584) (C0 : lw_At p s m meth c b L xs) (hK : XK (D, cA, adL s.heap.size a0 a1) s) (hZC : XZ shC (D, cA, adL s.heap.size a0 a1) s s.heap) (hZR : XZ shR (D, cA, adL s.heap.size a0 a1) s s.heap) {i : Nat} (hi : i + 7 ≤ L) (hnext : ∀ (u v : Mm) (H : Heap) (locs : List Loc) (ls : Array Slot), Rel u v → XP shC (D, cA, adL s.heap.size a0 a1) u H → XP shR (D, cA, adL s.heap.size a0 a1) v H → va_S (CA s.heap.size) s.heap H locs → lv_has ls 4 [(0, .ref b), (1, .ref (adL s.heap.size a0 a1 (3, 0, 0))), (2, .ref (adL s.heap.size a0 a1 (9, 0, 0))), (3, .int (nI i))] → W p l e room_1 s m #[Value.ref b] below meth c H locs 207 2270 (lw_Z below #[Value.ref b] s) (F0 m 1211 ls [])) {u v : Mm} (hrel : Rel u v) {H : Heap} {locs : List Loc} {ls : Array Slot} (hPC : XP shC (D, cA, adL s.heap.size a0 a1) u H) (hPR : XP shR (D, cA, adL s.heap.size a0 a1) v H) (hS : va_S (CA s.heap.size) s.heap H locs) (hl : lv_has ls 4 [(0, .ref b), (1, .ref (adL s.heap.size a0 a1 (3, 0, 0))), (2, .ref (adL s.heap.size a0 a1 (9, 0, 0))), (3, .int (nI i))]) : W p l e room_1 s m #[Value.ref b] below meth c H locs 207 2270 (lw_Z below #[Value.ref b] s) (F0 m 213 ls []) := by
  obtain ⟨hx, hb, hr, hml, hown, hts, hX, hbl, hlocks, hgv⟩ := C0
  have S : CallFix p m c code 4 s #[Value.ref b] lw_tbl RL := ⟨hx, hb, hml, hown, hts⟩
  have hbA : ¬ CA s.heap.size b := Nat.not_le.mpr hbl
  refine lv_aload_n hx hb dL_law_213 rfl (lv_at hl 1 rfl) ?_
  refine lv_aload_n hx hb dL_law_214 rfl (lv_at hl 0 rfl) ?_
  refine lv_iload_n hx hb dL_law_215 rfl (lv_at hl 3 rfl) ?_
  refine lv_iconst (v := 1) hx hb dL_law_216 (by decide) ?_
  refine lv_iadd hx hb dL_law_217 ?_
  refine va_sld (A := CA s.heap.size) hx hb hX hbl hbA hS (la_in (k := 1) hi (by decide) hL rfl) dL_law_218 ?_
  refine lv_aload_n hx hb dL_law_219 rfl (lv_at hl 0 rfl) ?_
  refine lv_iload_n hx hb dL_law_220 rfl (lv_at hl 3 rfl) ?_
  refine lv_iconst (v := 2) hx hb dL_law_221 (by decide) ?_
  refine lv_iadd hx hb dL_law_222 ?_
  refine va_sld (A := CA s.heap.size) hx hb hX hbl hbA hS (la_in (k := 2) hi (by decide) hL rfl) dL_law_223 ?_
  refine lv_aload_n hx hb dL_law_224 rfl (lv_at hl 0 rfl) ?_
  refine lv_iload_n hx hb dL_law_225 rfl (lv_at hl 3 rfl) ?_
  refine lv_iconst (v := 3) hx hb dL_law_226 (by decide) ?_
  refine lv_iadd hx hb dL_law_227 ?_
  refine va_sld (A := CA s.heap.size) hx hb hX hbl hbA hS (la_in (k := 3) hi (by decide) hL rfl) dL_law_228 ?_
  obtain ⟨r, u1, v1, e1, e2, hrel1⟩ := hop u v hrel (xs ((nI i) + 1).toNatClampNeg) (xs ((nI i) + 2).toNatClampNeg) (xs ((nI i) + 3).toNatClampNeg)
  refine la_call (sh := shC) (sh' := shR) (a := 3) (b := 0) (k := 0) (ci := 7) (T := TX7) (N := 8) (As := [.int (xs ((nI i) + 1).toNatClampNeg), .int (xs ((nI i) + 2).toNatClampNeg), .int (xs ((nI i) + 3).toNatClampNeg)]) (rest := []) S hK hZC la_subC la_disC hPC hPR hS (c_X7_crosser l (D, cA, adL s.heap.size a0 a1) (XD_C D cA s.heap.size a0 a1) (xs ((nI i) + 1).toNatClampNeg) (xs ((nI i) + 2).toNatClampNeg) (xs ((nI i) + 3).toNatClampNeg) u e1) ⟨wd_330, wd_327, wd_328, wd_329, wd_54⟩ hd_X7_crosser ⟨by decide, by decide⟩ rfl (kyO (by decide)) rfl rfl hl.1 rfl (Nat.le_of_ble_eq_true rfl) dL_law_229 ⟨by decide, by decide⟩ (fun H locs hPC hPR hS => ?_)
  refine lv_aload_n hx hb dL_law_232 rfl (lv_at hl 2 rfl) ?_
  refine lv_aload_n hx hb dL_law_233 rfl (lv_at hl 0 rfl) ?_
  refine lv_iload_n hx hb dL_law_234 rfl (lv_at hl 3 rfl) ?_
  refine lv_iconst (v := 1) hx hb dL_law_235 (by decide) ?_
  refine lv_iadd hx hb dL_law_236 ?_
  refine va_sld (A := CA s.heap.size) hx hb hX hbl hbA hS (la_in (k := 1) hi (by decide) hL rfl) dL_law_237 ?_
  refine lv_aload_n hx hb dL_law_238 rfl (lv_at hl 0 rfl) ?_
  refine lv_iload_n hx hb dL_law_239 rfl (lv_at hl 3 rfl) ?_
  refine lv_iconst (v := 2) hx hb dL_law_240 (by decide) ?_
  refine lv_iadd hx hb dL_law_241 ?_
  refine va_sld (A := CA s.heap.size) hx hb hX hbl hbA hS (la_in (k := 2) hi (by decide) hL rfl) dL_law_242 ?_
  refine lv_aload_n hx hb dL_law_243 rfl (lv_at hl 0 rfl) ?_
  refine lv_iload_n hx hb dL_law_244 rfl (lv_at hl 3 rfl) ?_
  refine lv_iconst (v := 3) hx hb dL_law_245 (by decide) ?_
  refine lv_iadd hx hb dL_law_246 ?_
  refine va_sld (A := CA s.heap.size) hx hb hX hbl hbA hS (la_in (k := 3) hi (by decide) hL rfl) dL_law_247 ?_
  refine la_call (sh := shR) (sh' := shC) (a := 9) (b := 0) (k := 0) (ci := 8) (T := TX8) (N := 31) (As := [.int (xs ((nI i) + 1).toNatClampNeg), .int (xs ((nI i) + 2).toNatClampNeg), .int (xs ((nI i) + 3).toNatClampNeg)]) (rest := [.int r]) S hK hZR la_subR la_disR hPR hPC hS (c_X8_crosser l (D, cA, adL s.heap.size a0 a1) (XD_R D cA s.heap.size a0 a1) (xs ((nI i) + 1).toNatClampNeg) (xs ((nI i) + 2).toNatClampNeg) (xs ((nI i) + 3).toNatClampNeg) v e2) ⟨wd_986, wd_983, wd_984, wd_985, wd_62⟩ hd_X8_crosser ⟨by decide, by decide⟩ rfl (kyM (by decide)) rfl rfl hl.1 rfl (Nat.le_of_ble_eq_true rfl) dL_law_248 ⟨by decide, by decide⟩ (fun H locs hPR hPC hS => ?_)
  refine lv_icmp_eq (tgt := 1211) hx hb dL_law_251 (by decide) (fun _ => ?_) (fun h => absurd rfl h)
  exact hnext u1 v1 _ _ _ hrel1 hPC hPR hS hl
set_option maxRecDepth 100000 in
set_option maxHeartbeats 4000000 in
theorem law_of (N : Nat) {Rel : Mm → Mm → Prop} (hop : Op_of N Rel) {p : Program} {l : Launch} {e : Env} {s : State} {m : MethodId} {below : List Frame} {meth : Method} {c : Code} {D : va_G} {cA : Nat → ClassId} {a0 a1 b L : Nat} {xs : Nat → Int32} (hL : L ≤ 3584) (C0 : lw_At p s m meth c b L xs) (hK : XK (D, cA, adL s.heap.size a0 a1) s) (hZC : XZ shC (D, cA, adL s.heap.size a0 a1) s s.heap) (hZR : XZ shR (D, cA, adL s.heap.size a0 a1) s s.heap) {i : Nat} (hi : i + 7 ≤ L) (hnext : ∀ (u v : Mm) (H : Heap) (locs : List Loc) (ls : Array Slot), Rel u v → XP shC (D, cA, adL s.heap.size a0 a1) u H → XP shR (D, cA, adL s.heap.size a0 a1) v H → va_S (CA s.heap.size) s.heap H locs → lv_has ls 4 [(0, .ref b), (1, .ref (adL s.heap.size a0 a1 (3, 0, 0))), (2, .ref (adL s.heap.size a0 a1 (9, 0, 0))), (3, .int (nI i))] → W p l e room_1 s m #[Value.ref b] below meth c H locs 207 2270 (lw_Z below #[Value.ref b] s) (F0 m 1211 ls [])) {u v : Mm} (hrel : Rel u v) {H : Heap} {locs : List Loc} {ls : Array Slot} (hPC : XP shC (D, cA, adL s.heap.size a0 a1) u H) (hPR : XP shR (D, cA, adL s.heap.size a0 a1) v H) (hS : va_S (CA s.heap.size) s.heap H locs) (hl : lv_has ls 4 [(0, .ref b), (1, .ref (adL s.heap.size a0 a1 (3, 0, 0))), (2, .ref (adL s.heap.size a0 a1 (9, 0, 0))), (3, .int (nI i))]) : W p l e room_1 s m #[Value.ref b] below meth c H locs 207 2270 (lw_Z below #[Value.ref b] s) (F0 m 256 ls []) := by
  obtain ⟨hx, hb, hr, hml, hown, hts, hX, hbl, hlocks, hgv⟩ := C0
  have S : CallFix p m c code 4 s #[Value.ref b] lw_tbl RL := ⟨hx, hb, hml, hown, hts⟩
  have hbA : ¬ CA s.heap.size b := Nat.not_le.mpr hbl
  refine lv_aload_n hx hb dL_law_256 rfl (lv_at hl 1 rfl) ?_
  refine lv_aload_n hx hb dL_law_257 rfl (lv_at hl 0 rfl) ?_
  refine lv_iload_n hx hb dL_law_258 rfl (lv_at hl 3 rfl) ?_
  refine lv_iconst (v := 1) hx hb dL_law_259 (by decide) ?_
  refine lv_iadd hx hb dL_law_260 ?_
  refine va_sld (A := CA s.heap.size) hx hb hX hbl hbA hS (la_in (k := 1) hi (by decide) hL rfl) dL_law_261 ?_
  refine lv_aload_n hx hb dL_law_262 rfl (lv_at hl 0 rfl) ?_
  refine lv_iload_n hx hb dL_law_263 rfl (lv_at hl 3 rfl) ?_
  refine lv_iconst (v := 2) hx hb dL_law_264 (by decide) ?_
  refine lv_iadd hx hb dL_law_265 ?_
  refine va_sld (A := CA s.heap.size) hx hb hX hbl hbA hS (la_in (k := 2) hi (by decide) hL rfl) dL_law_266 ?_
  obtain ⟨r, u1, v1, e1, e2, hrel1⟩ := hop u v hrel (xs ((nI i) + 1).toNatClampNeg) (xs ((nI i) + 2).toNatClampNeg)
  refine la_call (sh := shC) (sh' := shR) (a := 3) (b := 0) (k := 0) (ci := 7) (T := TX7) (N := 8) (As := [.int (xs ((nI i) + 1).toNatClampNeg), .int (xs ((nI i) + 2).toNatClampNeg)]) (rest := []) S hK hZC la_subC la_disC hPC hPR hS (c_X7_of l (D, cA, adL s.heap.size a0 a1) (XD_C D cA s.heap.size a0 a1) (xs ((nI i) + 1).toNatClampNeg) (xs ((nI i) + 2).toNatClampNeg) u e1) ⟨wd_338, wd_335, wd_336, wd_337, wd_54⟩ hd_X7_of ⟨by decide, by decide⟩ rfl (kyO (by decide)) rfl rfl hl.1 rfl (Nat.le_of_ble_eq_true rfl) dL_law_267 ⟨by decide, by decide⟩ (fun H locs hPC hPR hS => ?_)
  refine lv_aload_n hx hb dL_law_270 rfl (lv_at hl 2 rfl) ?_
  refine lv_aload_n hx hb dL_law_271 rfl (lv_at hl 0 rfl) ?_
  refine lv_iload_n hx hb dL_law_272 rfl (lv_at hl 3 rfl) ?_
  refine lv_iconst (v := 1) hx hb dL_law_273 (by decide) ?_
  refine lv_iadd hx hb dL_law_274 ?_
  refine va_sld (A := CA s.heap.size) hx hb hX hbl hbA hS (la_in (k := 1) hi (by decide) hL rfl) dL_law_275 ?_
  refine lv_aload_n hx hb dL_law_276 rfl (lv_at hl 0 rfl) ?_
  refine lv_iload_n hx hb dL_law_277 rfl (lv_at hl 3 rfl) ?_
  refine lv_iconst (v := 2) hx hb dL_law_278 (by decide) ?_
  refine lv_iadd hx hb dL_law_279 ?_
  refine va_sld (A := CA s.heap.size) hx hb hX hbl hbA hS (la_in (k := 2) hi (by decide) hL rfl) dL_law_280 ?_
  refine la_call (sh := shR) (sh' := shC) (a := 9) (b := 0) (k := 0) (ci := 8) (T := TX8) (N := 31) (As := [.int (xs ((nI i) + 1).toNatClampNeg), .int (xs ((nI i) + 2).toNatClampNeg)]) (rest := [.int r]) S hK hZR la_subR la_disR hPR hPC hS (c_X8_of l (D, cA, adL s.heap.size a0 a1) (XD_R D cA s.heap.size a0 a1) (xs ((nI i) + 1).toNatClampNeg) (xs ((nI i) + 2).toNatClampNeg) v e2) ⟨wd_993, wd_990, wd_991, wd_992, wd_62⟩ hd_X8_of ⟨by decide, by decide⟩ rfl (kyM (by decide)) rfl rfl hl.1 rfl (Nat.le_of_ble_eq_true rfl) dL_law_281 ⟨by decide, by decide⟩ (fun H locs hPR hPC hS => ?_)
  refine lv_icmp_eq (tgt := 1211) hx hb dL_law_284 (by decide) (fun _ => ?_) (fun h => absurd rfl h)
  exact hnext u1 v1 _ _ _ hrel1 hPC hPR hS hl
set_option maxRecDepth 100000 in
set_option maxHeartbeats 4000000 in
theorem law_at (N : Nat) {Rel : Mm → Mm → Prop} (hop : Op_at N Rel) {p : Program} {l : Launch} {e : Env} {s : State} {m : MethodId} {below : List Frame} {meth : Method} {c : Code} {D : va_G} {cA : Nat → ClassId} {a0 a1 b L : Nat} {xs : Nat → Int32} (hL : L ≤ 3584) (C0 : lw_At p s m meth c b L xs) (hK : XK (D, cA, adL s.heap.size a0 a1) s) (hZC : XZ shC (D, cA, adL s.heap.size a0 a1) s s.heap) (hZR : XZ shR (D, cA, adL s.heap.size a0 a1) s s.heap) {i : Nat} (hi : i + 7 ≤ L) (hnext : ∀ (u v : Mm) (H : Heap) (locs : List Loc) (ls : Array Slot), Rel u v → XP shC (D, cA, adL s.heap.size a0 a1) u H → XP shR (D, cA, adL s.heap.size a0 a1) v H → va_S (CA s.heap.size) s.heap H locs → lv_has ls 4 [(0, .ref b), (1, .ref (adL s.heap.size a0 a1 (3, 0, 0))), (2, .ref (adL s.heap.size a0 a1 (9, 0, 0))), (3, .int (nI i))] → W p l e room_1 s m #[Value.ref b] below meth c H locs 207 2270 (lw_Z below #[Value.ref b] s) (F0 m 1211 ls [])) {u v : Mm} (hrel : Rel u v) {H : Heap} {locs : List Loc} {ls : Array Slot} (hPC : XP shC (D, cA, adL s.heap.size a0 a1) u H) (hPR : XP shR (D, cA, adL s.heap.size a0 a1) v H) (hS : va_S (CA s.heap.size) s.heap H locs) (hl : lv_has ls 4 [(0, .ref b), (1, .ref (adL s.heap.size a0 a1 (3, 0, 0))), (2, .ref (adL s.heap.size a0 a1 (9, 0, 0))), (3, .int (nI i))]) : W p l e room_1 s m #[Value.ref b] below meth c H locs 207 2270 (lw_Z below #[Value.ref b] s) (F0 m 289 ls []) := by
  obtain ⟨hx, hb, hr, hml, hown, hts, hX, hbl, hlocks, hgv⟩ := C0
  have S : CallFix p m c code 4 s #[Value.ref b] lw_tbl RL := ⟨hx, hb, hml, hown, hts⟩
  have hbA : ¬ CA s.heap.size b := Nat.not_le.mpr hbl
  refine lv_aload_n hx hb dL_law_289 rfl (lv_at hl 1 rfl) ?_
  refine lv_aload_n hx hb dL_law_290 rfl (lv_at hl 0 rfl) ?_
  refine lv_iload_n hx hb dL_law_291 rfl (lv_at hl 3 rfl) ?_
  refine lv_iconst (v := 1) hx hb dL_law_292 (by decide) ?_
  refine lv_iadd hx hb dL_law_293 ?_
  refine va_sld (A := CA s.heap.size) hx hb hX hbl hbA hS (la_in (k := 1) hi (by decide) hL rfl) dL_law_294 ?_
  refine lv_aload_n hx hb dL_law_295 rfl (lv_at hl 0 rfl) ?_
  refine lv_iload_n hx hb dL_law_296 rfl (lv_at hl 3 rfl) ?_
  refine lv_iconst (v := 2) hx hb dL_law_297 (by decide) ?_
  refine lv_iadd hx hb dL_law_298 ?_
  refine va_sld (A := CA s.heap.size) hx hb hX hbl hbA hS (la_in (k := 2) hi (by decide) hL rfl) dL_law_299 ?_
  obtain ⟨r, u1, v1, e1, e2, hrel1⟩ := hop u v hrel (xs ((nI i) + 1).toNatClampNeg) (xs ((nI i) + 2).toNatClampNeg)
  refine la_call (sh := shC) (sh' := shR) (a := 3) (b := 0) (k := 0) (ci := 7) (T := TX7) (N := 8) (As := [.int (xs ((nI i) + 1).toNatClampNeg), .int (xs ((nI i) + 2).toNatClampNeg)]) (rest := []) S hK hZC la_subC la_disC hPC hPR hS (c_X7_at l (D, cA, adL s.heap.size a0 a1) (XD_C D cA s.heap.size a0 a1) (xs ((nI i) + 1).toNatClampNeg) (xs ((nI i) + 2).toNatClampNeg) u e1) ⟨wd_353, wd_350, wd_351, wd_352, wd_54⟩ hd_X7_at ⟨by decide, by decide⟩ rfl (kyO (by decide)) rfl rfl hl.1 rfl (Nat.le_of_ble_eq_true rfl) dL_law_300 ⟨by decide, by decide⟩ (fun H locs hPC hPR hS => ?_)
  refine lv_aload_n hx hb dL_law_303 rfl (lv_at hl 2 rfl) ?_
  refine lv_aload_n hx hb dL_law_304 rfl (lv_at hl 0 rfl) ?_
  refine lv_iload_n hx hb dL_law_305 rfl (lv_at hl 3 rfl) ?_
  refine lv_iconst (v := 1) hx hb dL_law_306 (by decide) ?_
  refine lv_iadd hx hb dL_law_307 ?_
  refine va_sld (A := CA s.heap.size) hx hb hX hbl hbA hS (la_in (k := 1) hi (by decide) hL rfl) dL_law_308 ?_
  refine lv_aload_n hx hb dL_law_309 rfl (lv_at hl 0 rfl) ?_
  refine lv_iload_n hx hb dL_law_310 rfl (lv_at hl 3 rfl) ?_
  refine lv_iconst (v := 2) hx hb dL_law_311 (by decide) ?_
  refine lv_iadd hx hb dL_law_312 ?_
  refine va_sld (A := CA s.heap.size) hx hb hX hbl hbA hS (la_in (k := 2) hi (by decide) hL rfl) dL_law_313 ?_
  refine la_call (sh := shR) (sh' := shC) (a := 9) (b := 0) (k := 0) (ci := 8) (T := TX8) (N := 31) (As := [.int (xs ((nI i) + 1).toNatClampNeg), .int (xs ((nI i) + 2).toNatClampNeg)]) (rest := [.int r]) S hK hZR la_subR la_disR hPR hPC hS (c_X8_at l (D, cA, adL s.heap.size a0 a1) (XD_R D cA s.heap.size a0 a1) (xs ((nI i) + 1).toNatClampNeg) (xs ((nI i) + 2).toNatClampNeg) v e2) ⟨wd_1002, wd_999, wd_1000, wd_1001, wd_62⟩ hd_X8_at ⟨by decide, by decide⟩ rfl (kyM (by decide)) rfl rfl hl.1 rfl (Nat.le_of_ble_eq_true rfl) dL_law_314 ⟨by decide, by decide⟩ (fun H locs hPR hPC hS => ?_)
  refine lv_icmp_eq (tgt := 1211) hx hb dL_law_317 (by decide) (fun _ => ?_) (fun h => absurd rfl h)
  exact hnext u1 v1 _ _ _ hrel1 hPC hPR hS hl
set_option maxRecDepth 100000 in
set_option maxHeartbeats 4000000 in
theorem law_takes (N : Nat) {Rel : Mm → Mm → Prop} (hop : Op_takes N Rel) {p : Program} {l : Launch} {e : Env} {s : State} {m : MethodId} {below : List Frame} {meth : Method} {c : Code} {D : va_G} {cA : Nat → ClassId} {a0 a1 b L : Nat} {xs : Nat → Int32} (hL : L ≤ 3584) (C0 : lw_At p s m meth c b L xs) (hK : XK (D, cA, adL s.heap.size a0 a1) s) (hZC : XZ shC (D, cA, adL s.heap.size a0 a1) s s.heap) (hZR : XZ shR (D, cA, adL s.heap.size a0 a1) s s.heap) {i : Nat} (hi : i + 7 ≤ L) (hnext : ∀ (u v : Mm) (H : Heap) (locs : List Loc) (ls : Array Slot), Rel u v → XP shC (D, cA, adL s.heap.size a0 a1) u H → XP shR (D, cA, adL s.heap.size a0 a1) v H → va_S (CA s.heap.size) s.heap H locs → lv_has ls 4 [(0, .ref b), (1, .ref (adL s.heap.size a0 a1 (3, 0, 0))), (2, .ref (adL s.heap.size a0 a1 (9, 0, 0))), (3, .int (nI i))] → W p l e room_1 s m #[Value.ref b] below meth c H locs 207 2270 (lw_Z below #[Value.ref b] s) (F0 m 1211 ls [])) {u v : Mm} (hrel : Rel u v) {H : Heap} {locs : List Loc} {ls : Array Slot} (hPC : XP shC (D, cA, adL s.heap.size a0 a1) u H) (hPR : XP shR (D, cA, adL s.heap.size a0 a1) v H) (hS : va_S (CA s.heap.size) s.heap H locs) (hl : lv_has ls 4 [(0, .ref b), (1, .ref (adL s.heap.size a0 a1 (3, 0, 0))), (2, .ref (adL s.heap.size a0 a1 (9, 0, 0))), (3, .int (nI i))]) : W p l e room_1 s m #[Value.ref b] below meth c H locs 207 2270 (lw_Z below #[Value.ref b] s) (F0 m 322 ls []) := by
  obtain ⟨hx, hb, hr, hml, hown, hts, hX, hbl, hlocks, hgv⟩ := C0
  have S : CallFix p m c code 4 s #[Value.ref b] lw_tbl RL := ⟨hx, hb, hml, hown, hts⟩
  have hbA : ¬ CA s.heap.size b := Nat.not_le.mpr hbl
  refine lv_aload_n hx hb dL_law_322 rfl (lv_at hl 1 rfl) ?_
  refine lv_aload_n hx hb dL_law_323 rfl (lv_at hl 0 rfl) ?_
  refine lv_iload_n hx hb dL_law_324 rfl (lv_at hl 3 rfl) ?_
  refine lv_iconst (v := 1) hx hb dL_law_325 (by decide) ?_
  refine lv_iadd hx hb dL_law_326 ?_
  refine va_sld (A := CA s.heap.size) hx hb hX hbl hbA hS (la_in (k := 1) hi (by decide) hL rfl) dL_law_327 ?_
  refine lv_aload_n hx hb dL_law_328 rfl (lv_at hl 0 rfl) ?_
  refine lv_iload_n hx hb dL_law_329 rfl (lv_at hl 3 rfl) ?_
  refine lv_iconst (v := 2) hx hb dL_law_330 (by decide) ?_
  refine lv_iadd hx hb dL_law_331 ?_
  refine va_sld (A := CA s.heap.size) hx hb hX hbl hbA hS (la_in (k := 2) hi (by decide) hL rfl) dL_law_332 ?_
  obtain ⟨r, u1, v1, e1, e2, hrel1⟩ := hop u v hrel (xs ((nI i) + 1).toNatClampNeg) (xs ((nI i) + 2).toNatClampNeg)
  refine la_call (sh := shC) (sh' := shR) (a := 3) (b := 0) (k := 0) (ci := 7) (T := TX7) (N := 8) (As := [.int (xs ((nI i) + 1).toNatClampNeg), .int (xs ((nI i) + 2).toNatClampNeg)]) (rest := []) S hK hZC la_subC la_disC hPC hPR hS (c_X7_takes l (D, cA, adL s.heap.size a0 a1) N (XD_C D cA s.heap.size a0 a1) (xs ((nI i) + 1).toNatClampNeg) (xs ((nI i) + 2).toNatClampNeg) u e1) ⟨wd_361, wd_358, wd_359, wd_360, wd_54⟩ hd_X7_takes ⟨by decide, by decide⟩ rfl (kyO (by decide)) rfl rfl hl.1 rfl (Nat.le_of_ble_eq_true rfl) dL_law_333 ⟨by decide, by decide⟩ (fun H locs hPC hPR hS => ?_)
  refine lv_aload_n hx hb dL_law_336 rfl (lv_at hl 2 rfl) ?_
  refine lv_aload_n hx hb dL_law_337 rfl (lv_at hl 0 rfl) ?_
  refine lv_iload_n hx hb dL_law_338 rfl (lv_at hl 3 rfl) ?_
  refine lv_iconst (v := 1) hx hb dL_law_339 (by decide) ?_
  refine lv_iadd hx hb dL_law_340 ?_
  refine va_sld (A := CA s.heap.size) hx hb hX hbl hbA hS (la_in (k := 1) hi (by decide) hL rfl) dL_law_341 ?_
  refine lv_aload_n hx hb dL_law_342 rfl (lv_at hl 0 rfl) ?_
  refine lv_iload_n hx hb dL_law_343 rfl (lv_at hl 3 rfl) ?_
  refine lv_iconst (v := 2) hx hb dL_law_344 (by decide) ?_
  refine lv_iadd hx hb dL_law_345 ?_
  refine va_sld (A := CA s.heap.size) hx hb hX hbl hbA hS (la_in (k := 2) hi (by decide) hL rfl) dL_law_346 ?_
  refine la_call (sh := shR) (sh' := shC) (a := 9) (b := 0) (k := 0) (ci := 8) (T := TX8) (N := 31) (As := [.int (xs ((nI i) + 1).toNatClampNeg), .int (xs ((nI i) + 2).toNatClampNeg)]) (rest := [.int r]) S hK hZR la_subR la_disR hPR hPC hS (c_X8_takes l (D, cA, adL s.heap.size a0 a1) N (XD_R D cA s.heap.size a0 a1) (xs ((nI i) + 1).toNatClampNeg) (xs ((nI i) + 2).toNatClampNeg) v e2) ⟨wd_1010, wd_1007, wd_1008, wd_1009, wd_62⟩ hd_X8_takes ⟨by decide, by decide⟩ rfl (kyM (by decide)) rfl rfl hl.1 rfl (Nat.le_of_ble_eq_true rfl) dL_law_347 ⟨by decide, by decide⟩ (fun H locs hPR hPC hS => ?_)
  refine lv_icmp_eq (tgt := 1211) hx hb dL_law_350 (by decide) (fun _ => ?_) (fun h => absurd rfl h)
  exact hnext u1 v1 _ _ _ hrel1 hPC hPR hS hl
set_option maxRecDepth 100000 in
set_option maxHeartbeats 4000000 in
theorem law_type (N : Nat) {Rel : Mm → Mm → Prop} (hop : Op_type N Rel) {p : Program} {l : Launch} {e : Env} {s : State} {m : MethodId} {below : List Frame} {meth : Method} {c : Code} {D : va_G} {cA : Nat → ClassId} {a0 a1 b L : Nat} {xs : Nat → Int32} (hL : L ≤ 3584) (C0 : lw_At p s m meth c b L xs) (hK : XK (D, cA, adL s.heap.size a0 a1) s) (hZC : XZ shC (D, cA, adL s.heap.size a0 a1) s s.heap) (hZR : XZ shR (D, cA, adL s.heap.size a0 a1) s s.heap) {i : Nat} (hi : i + 7 ≤ L) (hnext : ∀ (u v : Mm) (H : Heap) (locs : List Loc) (ls : Array Slot), Rel u v → XP shC (D, cA, adL s.heap.size a0 a1) u H → XP shR (D, cA, adL s.heap.size a0 a1) v H → va_S (CA s.heap.size) s.heap H locs → lv_has ls 4 [(0, .ref b), (1, .ref (adL s.heap.size a0 a1 (3, 0, 0))), (2, .ref (adL s.heap.size a0 a1 (9, 0, 0))), (3, .int (nI i))] → W p l e room_1 s m #[Value.ref b] below meth c H locs 207 2270 (lw_Z below #[Value.ref b] s) (F0 m 1211 ls [])) {u v : Mm} (hrel : Rel u v) {H : Heap} {locs : List Loc} {ls : Array Slot} (hPC : XP shC (D, cA, adL s.heap.size a0 a1) u H) (hPR : XP shR (D, cA, adL s.heap.size a0 a1) v H) (hS : va_S (CA s.heap.size) s.heap H locs) (hl : lv_has ls 4 [(0, .ref b), (1, .ref (adL s.heap.size a0 a1 (3, 0, 0))), (2, .ref (adL s.heap.size a0 a1 (9, 0, 0))), (3, .int (nI i))]) : W p l e room_1 s m #[Value.ref b] below meth c H locs 207 2270 (lw_Z below #[Value.ref b] s) (F0 m 355 ls []) := by
  obtain ⟨hx, hb, hr, hml, hown, hts, hX, hbl, hlocks, hgv⟩ := C0
  have S : CallFix p m c code 4 s #[Value.ref b] lw_tbl RL := ⟨hx, hb, hml, hown, hts⟩
  have hbA : ¬ CA s.heap.size b := Nat.not_le.mpr hbl
  refine lv_aload_n hx hb dL_law_355 rfl (lv_at hl 1 rfl) ?_
  refine lv_aload_n hx hb dL_law_356 rfl (lv_at hl 0 rfl) ?_
  refine lv_iload_n hx hb dL_law_357 rfl (lv_at hl 3 rfl) ?_
  refine lv_iconst (v := 1) hx hb dL_law_358 (by decide) ?_
  refine lv_iadd hx hb dL_law_359 ?_
  refine va_sld (A := CA s.heap.size) hx hb hX hbl hbA hS (la_in (k := 1) hi (by decide) hL rfl) dL_law_360 ?_
  obtain ⟨r, u1, v1, e1, e2, hrel1⟩ := hop u v hrel (xs ((nI i) + 1).toNatClampNeg)
  refine la_call (sh := shC) (sh' := shR) (a := 3) (b := 0) (k := 0) (ci := 7) (T := TX7) (N := 8) (As := [.int (xs ((nI i) + 1).toNatClampNeg)]) (rest := []) S hK hZC la_subC la_disC hPC hPR hS (c_X7_type l (D, cA, adL s.heap.size a0 a1) (XD_C D cA s.heap.size a0 a1) (xs ((nI i) + 1).toNatClampNeg) u e1) ⟨wd_389, wd_386, wd_387, wd_388, wd_54⟩ hd_X7_type ⟨by decide, by decide⟩ rfl (kyO (by decide)) rfl rfl hl.1 rfl (Nat.le_of_ble_eq_true rfl) dL_law_361 ⟨by decide, by decide⟩ (fun H locs hPC hPR hS => ?_)
  refine lv_aload_n hx hb dL_law_364 rfl (lv_at hl 2 rfl) ?_
  refine lv_aload_n hx hb dL_law_365 rfl (lv_at hl 0 rfl) ?_
  refine lv_iload_n hx hb dL_law_366 rfl (lv_at hl 3 rfl) ?_
  refine lv_iconst (v := 1) hx hb dL_law_367 (by decide) ?_
  refine lv_iadd hx hb dL_law_368 ?_
  refine va_sld (A := CA s.heap.size) hx hb hX hbl hbA hS (la_in (k := 1) hi (by decide) hL rfl) dL_law_369 ?_
  refine la_call (sh := shR) (sh' := shC) (a := 9) (b := 0) (k := 0) (ci := 8) (T := TX8) (N := 31) (As := [.int (xs ((nI i) + 1).toNatClampNeg)]) (rest := [.int r]) S hK hZR la_subR la_disR hPR hPC hS (c_X8_type l (D, cA, adL s.heap.size a0 a1) (XD_R D cA s.heap.size a0 a1) (xs ((nI i) + 1).toNatClampNeg) v e2) ⟨wd_1029, wd_1026, wd_1027, wd_1028, wd_62⟩ hd_X8_type ⟨by decide, by decide⟩ rfl (kyM (by decide)) rfl rfl hl.1 rfl (Nat.le_of_ble_eq_true rfl) dL_law_370 ⟨by decide, by decide⟩ (fun H locs hPR hPC hS => ?_)
  refine lv_icmp_eq (tgt := 1211) hx hb dL_law_373 (by decide) (fun _ => ?_) (fun h => absurd rfl h)
  exact hnext u1 v1 _ _ _ hrel1 hPC hPR hS hl
set_option maxRecDepth 100000 in
set_option maxHeartbeats 4000000 in
theorem law_ford (N : Nat) {Rel : Mm → Mm → Prop} (hop : Op_ford N Rel) {p : Program} {l : Launch} {e : Env} {s : State} {m : MethodId} {below : List Frame} {meth : Method} {c : Code} {D : va_G} {cA : Nat → ClassId} {a0 a1 b L : Nat} {xs : Nat → Int32} (hL : L ≤ 3584) (C0 : lw_At p s m meth c b L xs) (hK : XK (D, cA, adL s.heap.size a0 a1) s) (hZC : XZ shC (D, cA, adL s.heap.size a0 a1) s s.heap) (hZR : XZ shR (D, cA, adL s.heap.size a0 a1) s s.heap) {i : Nat} (hi : i + 7 ≤ L) (hnext : ∀ (u v : Mm) (H : Heap) (locs : List Loc) (ls : Array Slot), Rel u v → XP shC (D, cA, adL s.heap.size a0 a1) u H → XP shR (D, cA, adL s.heap.size a0 a1) v H → va_S (CA s.heap.size) s.heap H locs → lv_has ls 4 [(0, .ref b), (1, .ref (adL s.heap.size a0 a1 (3, 0, 0))), (2, .ref (adL s.heap.size a0 a1 (9, 0, 0))), (3, .int (nI i))] → W p l e room_1 s m #[Value.ref b] below meth c H locs 207 2270 (lw_Z below #[Value.ref b] s) (F0 m 1211 ls [])) {u v : Mm} (hrel : Rel u v) {H : Heap} {locs : List Loc} {ls : Array Slot} (hPC : XP shC (D, cA, adL s.heap.size a0 a1) u H) (hPR : XP shR (D, cA, adL s.heap.size a0 a1) v H) (hS : va_S (CA s.heap.size) s.heap H locs) (hl : lv_has ls 4 [(0, .ref b), (1, .ref (adL s.heap.size a0 a1 (3, 0, 0))), (2, .ref (adL s.heap.size a0 a1 (9, 0, 0))), (3, .int (nI i))]) : W p l e room_1 s m #[Value.ref b] below meth c H locs 207 2270 (lw_Z below #[Value.ref b] s) (F0 m 378 ls []) := by
  obtain ⟨hx, hb, hr, hml, hown, hts, hX, hbl, hlocks, hgv⟩ := C0
  have S : CallFix p m c code 4 s #[Value.ref b] lw_tbl RL := ⟨hx, hb, hml, hown, hts⟩
  have hbA : ¬ CA s.heap.size b := Nat.not_le.mpr hbl
  refine lv_aload_n hx hb dL_law_378 rfl (lv_at hl 1 rfl) ?_
  obtain ⟨r, u1, v1, e1, e2, hrel1⟩ := hop u v hrel
  refine la_call (sh := shC) (sh' := shR) (a := 3) (b := 0) (k := 0) (ci := 7) (T := TX7) (N := 8) (As := []) (rest := []) S hK hZC la_subC la_disC hPC hPR hS (c_X7_ford l (D, cA, adL s.heap.size a0 a1) N (XD_C D cA s.heap.size a0 a1) u e1) ⟨wd_397, wd_394, wd_395, wd_396, wd_54⟩ hd_X7_ford ⟨by decide, by decide⟩ rfl (kyO (by decide)) rfl rfl hl.1 rfl (Nat.le_of_ble_eq_true rfl) dL_law_379 ⟨by decide, by decide⟩ (fun H locs hPC hPR hS => ?_)
  refine lv_aload_n hx hb dL_law_382 rfl (lv_at hl 2 rfl) ?_
  refine la_call (sh := shR) (sh' := shC) (a := 9) (b := 0) (k := 0) (ci := 8) (T := TX8) (N := 31) (As := []) (rest := [.int r]) S hK hZR la_subR la_disR hPR hPC hS (c_X8_ford l (D, cA, adL s.heap.size a0 a1) N (XD_R D cA s.heap.size a0 a1) v e2) ⟨wd_1035, wd_1032, wd_1033, wd_1034, wd_62⟩ hd_X8_ford ⟨by decide, by decide⟩ rfl (kyM (by decide)) rfl rfl hl.1 rfl (Nat.le_of_ble_eq_true rfl) dL_law_383 ⟨by decide, by decide⟩ (fun H locs hPR hPC hS => ?_)
  refine lv_icmp_eq (tgt := 1211) hx hb dL_law_386 (by decide) (fun _ => ?_) (fun h => absurd rfl h)
  exact hnext u1 v1 _ _ _ hrel1 hPC hPR hS hl
set_option maxRecDepth 100000 in
set_option maxHeartbeats 4000000 in
theorem law_count (N : Nat) {Rel : Mm → Mm → Prop} (hop : Op_count N Rel) {p : Program} {l : Launch} {e : Env} {s : State} {m : MethodId} {below : List Frame} {meth : Method} {c : Code} {D : va_G} {cA : Nat → ClassId} {a0 a1 b L : Nat} {xs : Nat → Int32} (hL : L ≤ 3584) (C0 : lw_At p s m meth c b L xs) (hK : XK (D, cA, adL s.heap.size a0 a1) s) (hZC : XZ shC (D, cA, adL s.heap.size a0 a1) s s.heap) (hZR : XZ shR (D, cA, adL s.heap.size a0 a1) s s.heap) {i : Nat} (hi : i + 7 ≤ L) (hnext : ∀ (u v : Mm) (H : Heap) (locs : List Loc) (ls : Array Slot), Rel u v → XP shC (D, cA, adL s.heap.size a0 a1) u H → XP shR (D, cA, adL s.heap.size a0 a1) v H → va_S (CA s.heap.size) s.heap H locs → lv_has ls 4 [(0, .ref b), (1, .ref (adL s.heap.size a0 a1 (3, 0, 0))), (2, .ref (adL s.heap.size a0 a1 (9, 0, 0))), (3, .int (nI i))] → W p l e room_1 s m #[Value.ref b] below meth c H locs 207 2270 (lw_Z below #[Value.ref b] s) (F0 m 1211 ls [])) {u v : Mm} (hrel : Rel u v) {H : Heap} {locs : List Loc} {ls : Array Slot} (hPC : XP shC (D, cA, adL s.heap.size a0 a1) u H) (hPR : XP shR (D, cA, adL s.heap.size a0 a1) v H) (hS : va_S (CA s.heap.size) s.heap H locs) (hl : lv_has ls 4 [(0, .ref b), (1, .ref (adL s.heap.size a0 a1 (3, 0, 0))), (2, .ref (adL s.heap.size a0 a1 (9, 0, 0))), (3, .int (nI i))]) : W p l e room_1 s m #[Value.ref b] below meth c H locs 207 2270 (lw_Z below #[Value.ref b] s) (F0 m 391 ls []) := by
  obtain ⟨hx, hb, hr, hml, hown, hts, hX, hbl, hlocks, hgv⟩ := C0
  have S : CallFix p m c code 4 s #[Value.ref b] lw_tbl RL := ⟨hx, hb, hml, hown, hts⟩
  have hbA : ¬ CA s.heap.size b := Nat.not_le.mpr hbl
  refine lv_aload_n hx hb dL_law_391 rfl (lv_at hl 1 rfl) ?_
  refine lv_aload_n hx hb dL_law_392 rfl (lv_at hl 0 rfl) ?_
  refine lv_iload_n hx hb dL_law_393 rfl (lv_at hl 3 rfl) ?_
  refine lv_iconst (v := 1) hx hb dL_law_394 (by decide) ?_
  refine lv_iadd hx hb dL_law_395 ?_
  refine va_sld (A := CA s.heap.size) hx hb hX hbl hbA hS (la_in (k := 1) hi (by decide) hL rfl) dL_law_396 ?_
  obtain ⟨r, u1, v1, e1, e2, hrel1⟩ := hop u v hrel (xs ((nI i) + 1).toNatClampNeg)
  refine la_call (sh := shC) (sh' := shR) (a := 3) (b := 0) (k := 0) (ci := 7) (T := TX7) (N := 8) (As := [.int (xs ((nI i) + 1).toNatClampNeg)]) (rest := []) S hK hZC la_subC la_disC hPC hPR hS (c_X7_count l (D, cA, adL s.heap.size a0 a1) N (XD_C D cA s.heap.size a0 a1) (xs ((nI i) + 1).toNatClampNeg) u e1) ⟨wd_551, wd_548, wd_549, wd_550, wd_54⟩ hd_X7_count ⟨by decide, by decide⟩ rfl (kyO (by decide)) rfl rfl hl.1 rfl (Nat.le_of_ble_eq_true rfl) dL_law_397 ⟨by decide, by decide⟩ (fun H locs hPC hPR hS => ?_)
  refine lv_aload_n hx hb dL_law_400 rfl (lv_at hl 2 rfl) ?_
  refine lv_aload_n hx hb dL_law_401 rfl (lv_at hl 0 rfl) ?_
  refine lv_iload_n hx hb dL_law_402 rfl (lv_at hl 3 rfl) ?_
  refine lv_iconst (v := 1) hx hb dL_law_403 (by decide) ?_
  refine lv_iadd hx hb dL_law_404 ?_
  refine va_sld (A := CA s.heap.size) hx hb hX hbl hbA hS (la_in (k := 1) hi (by decide) hL rfl) dL_law_405 ?_
  refine la_call (sh := shR) (sh' := shC) (a := 9) (b := 0) (k := 0) (ci := 8) (T := TX8) (N := 31) (As := [.int (xs ((nI i) + 1).toNatClampNeg)]) (rest := [.int r]) S hK hZR la_subR la_disR hPR hPC hS (c_X8_count l (D, cA, adL s.heap.size a0 a1) N (XD_R D cA s.heap.size a0 a1) (xs ((nI i) + 1).toNatClampNeg) v e2) ⟨wd_1077, wd_1074, wd_1075, wd_1076, wd_62⟩ hd_X8_count ⟨by decide, by decide⟩ rfl (kyM (by decide)) rfl rfl hl.1 rfl (Nat.le_of_ble_eq_true rfl) dL_law_406 ⟨by decide, by decide⟩ (fun H locs hPR hPC hS => ?_)
  refine lv_icmp_eq (tgt := 1211) hx hb dL_law_409 (by decide) (fun _ => ?_) (fun h => absurd rfl h)
  exact hnext u1 v1 _ _ _ hrel1 hPC hPR hS hl
set_option maxRecDepth 100000 in
set_option maxHeartbeats 4000000 in
theorem law_hours (N : Nat) {Rel : Mm → Mm → Prop} (hop : Op_hours N Rel) {p : Program} {l : Launch} {e : Env} {s : State} {m : MethodId} {below : List Frame} {meth : Method} {c : Code} {D : va_G} {cA : Nat → ClassId} {a0 a1 b L : Nat} {xs : Nat → Int32} (hL : L ≤ 3584) (C0 : lw_At p s m meth c b L xs) (hK : XK (D, cA, adL s.heap.size a0 a1) s) (hZC : XZ shC (D, cA, adL s.heap.size a0 a1) s s.heap) (hZR : XZ shR (D, cA, adL s.heap.size a0 a1) s s.heap) {i : Nat} (hi : i + 7 ≤ L) (hnext : ∀ (u v : Mm) (H : Heap) (locs : List Loc) (ls : Array Slot), Rel u v → XP shC (D, cA, adL s.heap.size a0 a1) u H → XP shR (D, cA, adL s.heap.size a0 a1) v H → va_S (CA s.heap.size) s.heap H locs → lv_has ls 4 [(0, .ref b), (1, .ref (adL s.heap.size a0 a1 (3, 0, 0))), (2, .ref (adL s.heap.size a0 a1 (9, 0, 0))), (3, .int (nI i))] → W p l e room_1 s m #[Value.ref b] below meth c H locs 207 2270 (lw_Z below #[Value.ref b] s) (F0 m 1211 ls [])) {u v : Mm} (hrel : Rel u v) {H : Heap} {locs : List Loc} {ls : Array Slot} (hPC : XP shC (D, cA, adL s.heap.size a0 a1) u H) (hPR : XP shR (D, cA, adL s.heap.size a0 a1) v H) (hS : va_S (CA s.heap.size) s.heap H locs) (hl : lv_has ls 4 [(0, .ref b), (1, .ref (adL s.heap.size a0 a1 (3, 0, 0))), (2, .ref (adL s.heap.size a0 a1 (9, 0, 0))), (3, .int (nI i))]) : W p l e room_1 s m #[Value.ref b] below meth c H locs 207 2270 (lw_Z below #[Value.ref b] s) (F0 m 414 ls []) := by
  obtain ⟨hx, hb, hr, hml, hown, hts, hX, hbl, hlocks, hgv⟩ := C0
  have S : CallFix p m c code 4 s #[Value.ref b] lw_tbl RL := ⟨hx, hb, hml, hown, hts⟩
  have hbA : ¬ CA s.heap.size b := Nat.not_le.mpr hbl
  refine lv_aload_n hx hb dL_law_414 rfl (lv_at hl 1 rfl) ?_
  refine lv_aload_n hx hb dL_law_415 rfl (lv_at hl 0 rfl) ?_
  refine lv_iload_n hx hb dL_law_416 rfl (lv_at hl 3 rfl) ?_
  refine lv_iconst (v := 1) hx hb dL_law_417 (by decide) ?_
  refine lv_iadd hx hb dL_law_418 ?_
  refine va_sld (A := CA s.heap.size) hx hb hX hbl hbA hS (la_in (k := 1) hi (by decide) hL rfl) dL_law_419 ?_
  obtain ⟨r, u1, v1, e1, e2, hrel1⟩ := hop u v hrel (xs ((nI i) + 1).toNatClampNeg)
  refine la_call (sh := shC) (sh' := shR) (a := 3) (b := 0) (k := 0) (ci := 7) (T := TX7) (N := 8) (As := [.int (xs ((nI i) + 1).toNatClampNeg)]) (rest := []) S hK hZC la_subC la_disC hPC hPR hS (c_X7_hours l (D, cA, adL s.heap.size a0 a1) N (XD_C D cA s.heap.size a0 a1) (xs ((nI i) + 1).toNatClampNeg) u e1) ⟨wd_556, wd_553, wd_554, wd_555, wd_54⟩ hd_X7_hours ⟨by decide, by decide⟩ rfl (kyO (by decide)) rfl rfl hl.1 rfl (Nat.le_of_ble_eq_true rfl) dL_law_420 ⟨by decide, by decide⟩ (fun H locs hPC hPR hS => ?_)
  refine lv_aload_n hx hb dL_law_423 rfl (lv_at hl 2 rfl) ?_
  refine lv_aload_n hx hb dL_law_424 rfl (lv_at hl 0 rfl) ?_
  refine lv_iload_n hx hb dL_law_425 rfl (lv_at hl 3 rfl) ?_
  refine lv_iconst (v := 1) hx hb dL_law_426 (by decide) ?_
  refine lv_iadd hx hb dL_law_427 ?_
  refine va_sld (A := CA s.heap.size) hx hb hX hbl hbA hS (la_in (k := 1) hi (by decide) hL rfl) dL_law_428 ?_
  refine la_call (sh := shR) (sh' := shC) (a := 9) (b := 0) (k := 0) (ci := 8) (T := TX8) (N := 31) (As := [.int (xs ((nI i) + 1).toNatClampNeg)]) (rest := [.int r]) S hK hZR la_subR la_disR hPR hPC hS (c_X8_hours l (D, cA, adL s.heap.size a0 a1) N (XD_R D cA s.heap.size a0 a1) (xs ((nI i) + 1).toNatClampNeg) v e2) ⟨wd_1085, wd_1082, wd_1083, wd_1084, wd_62⟩ hd_X8_hours ⟨by decide, by decide⟩ rfl (kyM (by decide)) rfl rfl hl.1 rfl (Nat.le_of_ble_eq_true rfl) dL_law_429 ⟨by decide, by decide⟩ (fun H locs hPR hPC hS => ?_)
  refine lv_icmp_eq (tgt := 1211) hx hb dL_law_432 (by decide) (fun _ => ?_) (fun h => absurd rfl h)
  exact hnext u1 v1 _ _ _ hrel1 hPC hPR hS hl
set_option maxRecDepth 100000 in
set_option maxHeartbeats 4000000 in
theorem law_teach (N : Nat) {Rel : Mm → Mm → Prop} (hop : Op_teach N Rel) {p : Program} {l : Launch} {e : Env} {s : State} {m : MethodId} {below : List Frame} {meth : Method} {c : Code} {D : va_G} {cA : Nat → ClassId} {a0 a1 b L : Nat} {xs : Nat → Int32} (hL : L ≤ 3584) (C0 : lw_At p s m meth c b L xs) (hK : XK (D, cA, adL s.heap.size a0 a1) s) (hZC : XZ shC (D, cA, adL s.heap.size a0 a1) s s.heap) (hZR : XZ shR (D, cA, adL s.heap.size a0 a1) s s.heap) {i : Nat} (hi : i + 7 ≤ L) (hnext : ∀ (u v : Mm) (H : Heap) (locs : List Loc) (ls : Array Slot), Rel u v → XP shC (D, cA, adL s.heap.size a0 a1) u H → XP shR (D, cA, adL s.heap.size a0 a1) v H → va_S (CA s.heap.size) s.heap H locs → lv_has ls 4 [(0, .ref b), (1, .ref (adL s.heap.size a0 a1 (3, 0, 0))), (2, .ref (adL s.heap.size a0 a1 (9, 0, 0))), (3, .int (nI i))] → W p l e room_1 s m #[Value.ref b] below meth c H locs 207 2270 (lw_Z below #[Value.ref b] s) (F0 m 1211 ls [])) {u v : Mm} (hrel : Rel u v) {H : Heap} {locs : List Loc} {ls : Array Slot} (hPC : XP shC (D, cA, adL s.heap.size a0 a1) u H) (hPR : XP shR (D, cA, adL s.heap.size a0 a1) v H) (hS : va_S (CA s.heap.size) s.heap H locs) (hl : lv_has ls 4 [(0, .ref b), (1, .ref (adL s.heap.size a0 a1 (3, 0, 0))), (2, .ref (adL s.heap.size a0 a1 (9, 0, 0))), (3, .int (nI i))]) : W p l e room_1 s m #[Value.ref b] below meth c H locs 207 2270 (lw_Z below #[Value.ref b] s) (F0 m 437 ls []) := by
  obtain ⟨hx, hb, hr, hml, hown, hts, hX, hbl, hlocks, hgv⟩ := C0
  have S : CallFix p m c code 4 s #[Value.ref b] lw_tbl RL := ⟨hx, hb, hml, hown, hts⟩
  have hbA : ¬ CA s.heap.size b := Nat.not_le.mpr hbl
  refine lv_aload_n hx hb dL_law_437 rfl (lv_at hl 1 rfl) ?_
  refine lv_aload_n hx hb dL_law_438 rfl (lv_at hl 0 rfl) ?_
  refine lv_iload_n hx hb dL_law_439 rfl (lv_at hl 3 rfl) ?_
  refine lv_iconst (v := 1) hx hb dL_law_440 (by decide) ?_
  refine lv_iadd hx hb dL_law_441 ?_
  refine va_sld (A := CA s.heap.size) hx hb hX hbl hbA hS (la_in (k := 1) hi (by decide) hL rfl) dL_law_442 ?_
  refine lv_aload_n hx hb dL_law_443 rfl (lv_at hl 0 rfl) ?_
  refine lv_iload_n hx hb dL_law_444 rfl (lv_at hl 3 rfl) ?_
  refine lv_iconst (v := 2) hx hb dL_law_445 (by decide) ?_
  refine lv_iadd hx hb dL_law_446 ?_
  refine va_sld (A := CA s.heap.size) hx hb hX hbl hbA hS (la_in (k := 2) hi (by decide) hL rfl) dL_law_447 ?_
  obtain ⟨r, u1, v1, e1, e2, hrel1⟩ := hop u v hrel (xs ((nI i) + 1).toNatClampNeg) (xs ((nI i) + 2).toNatClampNeg)
  refine la_call (sh := shC) (sh' := shR) (a := 3) (b := 0) (k := 0) (ci := 7) (T := TX7) (N := 8) (As := [.int (xs ((nI i) + 1).toNatClampNeg), .int (xs ((nI i) + 2).toNatClampNeg)]) (rest := []) S hK hZC la_subC la_disC hPC hPR hS (c_X7_teach l (D, cA, adL s.heap.size a0 a1) (XD_C D cA s.heap.size a0 a1) (xs ((nI i) + 1).toNatClampNeg) (xs ((nI i) + 2).toNatClampNeg) u e1) ⟨wd_594, wd_591, wd_592, wd_593, wd_54⟩ hd_X7_teach ⟨by decide, by decide⟩ rfl (kyO (by decide)) rfl rfl hl.1 rfl (Nat.le_of_ble_eq_true rfl) dL_law_448 ⟨by decide, by decide⟩ (fun H locs hPC hPR hS => ?_)
  refine lv_aload_n hx hb dL_law_451 rfl (lv_at hl 2 rfl) ?_
  refine lv_aload_n hx hb dL_law_452 rfl (lv_at hl 0 rfl) ?_
  refine lv_iload_n hx hb dL_law_453 rfl (lv_at hl 3 rfl) ?_
  refine lv_iconst (v := 1) hx hb dL_law_454 (by decide) ?_
  refine lv_iadd hx hb dL_law_455 ?_
  refine va_sld (A := CA s.heap.size) hx hb hX hbl hbA hS (la_in (k := 1) hi (by decide) hL rfl) dL_law_456 ?_
  refine lv_aload_n hx hb dL_law_457 rfl (lv_at hl 0 rfl) ?_
  refine lv_iload_n hx hb dL_law_458 rfl (lv_at hl 3 rfl) ?_
  refine lv_iconst (v := 2) hx hb dL_law_459 (by decide) ?_
  refine lv_iadd hx hb dL_law_460 ?_
  refine va_sld (A := CA s.heap.size) hx hb hX hbl hbA hS (la_in (k := 2) hi (by decide) hL rfl) dL_law_461 ?_
  refine la_call (sh := shR) (sh' := shC) (a := 9) (b := 0) (k := 0) (ci := 8) (T := TX8) (N := 31) (As := [.int (xs ((nI i) + 1).toNatClampNeg), .int (xs ((nI i) + 2).toNatClampNeg)]) (rest := [.int r]) S hK hZR la_subR la_disR hPR hPC hS (c_X8_teach l (D, cA, adL s.heap.size a0 a1) N (XD_R D cA s.heap.size a0 a1) (xs ((nI i) + 1).toNatClampNeg) (xs ((nI i) + 2).toNatClampNeg) v e2) ⟨wd_1109, wd_1106, wd_1107, wd_1108, wd_62⟩ hd_X8_teach ⟨by decide, by decide⟩ rfl (kyM (by decide)) rfl rfl hl.1 rfl (Nat.le_of_ble_eq_true rfl) dL_law_462 ⟨by decide, by decide⟩ (fun H locs hPR hPC hS => ?_)
  refine lv_icmp_eq (tgt := 1211) hx hb dL_law_465 (by decide) (fun _ => ?_) (fun h => absurd rfl h)
  exact hnext u1 v1 _ _ _ hrel1 hPC hPR hS hl
set_option maxRecDepth 100000 in
set_option maxHeartbeats 4000000 in
theorem law_later (N : Nat) {Rel : Mm → Mm → Prop} (hop : Op_later N Rel) {p : Program} {l : Launch} {e : Env} {s : State} {m : MethodId} {below : List Frame} {meth : Method} {c : Code} {D : va_G} {cA : Nat → ClassId} {a0 a1 b L : Nat} {xs : Nat → Int32} (hL : L ≤ 3584) (C0 : lw_At p s m meth c b L xs) (hK : XK (D, cA, adL s.heap.size a0 a1) s) (hZC : XZ shC (D, cA, adL s.heap.size a0 a1) s s.heap) (hZR : XZ shR (D, cA, adL s.heap.size a0 a1) s s.heap) {i : Nat} (hi : i + 7 ≤ L) (hnext : ∀ (u v : Mm) (H : Heap) (locs : List Loc) (ls : Array Slot), Rel u v → XP shC (D, cA, adL s.heap.size a0 a1) u H → XP shR (D, cA, adL s.heap.size a0 a1) v H → va_S (CA s.heap.size) s.heap H locs → lv_has ls 4 [(0, .ref b), (1, .ref (adL s.heap.size a0 a1 (3, 0, 0))), (2, .ref (adL s.heap.size a0 a1 (9, 0, 0))), (3, .int (nI i))] → W p l e room_1 s m #[Value.ref b] below meth c H locs 207 2270 (lw_Z below #[Value.ref b] s) (F0 m 1211 ls [])) {u v : Mm} (hrel : Rel u v) {H : Heap} {locs : List Loc} {ls : Array Slot} (hPC : XP shC (D, cA, adL s.heap.size a0 a1) u H) (hPR : XP shR (D, cA, adL s.heap.size a0 a1) v H) (hS : va_S (CA s.heap.size) s.heap H locs) (hl : lv_has ls 4 [(0, .ref b), (1, .ref (adL s.heap.size a0 a1 (3, 0, 0))), (2, .ref (adL s.heap.size a0 a1 (9, 0, 0))), (3, .int (nI i))]) : W p l e room_1 s m #[Value.ref b] below meth c H locs 207 2270 (lw_Z below #[Value.ref b] s) (F0 m 470 ls []) := by
  obtain ⟨hx, hb, hr, hml, hown, hts, hX, hbl, hlocks, hgv⟩ := C0
  have S : CallFix p m c code 4 s #[Value.ref b] lw_tbl RL := ⟨hx, hb, hml, hown, hts⟩
  have hbA : ¬ CA s.heap.size b := Nat.not_le.mpr hbl
  refine lv_aload_n hx hb dL_law_470 rfl (lv_at hl 1 rfl) ?_
  refine lv_aload_n hx hb dL_law_471 rfl (lv_at hl 0 rfl) ?_
  refine lv_iload_n hx hb dL_law_472 rfl (lv_at hl 3 rfl) ?_
  refine lv_iconst (v := 1) hx hb dL_law_473 (by decide) ?_
  refine lv_iadd hx hb dL_law_474 ?_
  refine va_sld (A := CA s.heap.size) hx hb hX hbl hbA hS (la_in (k := 1) hi (by decide) hL rfl) dL_law_475 ?_
  refine lv_aload_n hx hb dL_law_476 rfl (lv_at hl 0 rfl) ?_
  refine lv_iload_n hx hb dL_law_477 rfl (lv_at hl 3 rfl) ?_
  refine lv_iconst (v := 2) hx hb dL_law_478 (by decide) ?_
  refine lv_iadd hx hb dL_law_479 ?_
  refine va_sld (A := CA s.heap.size) hx hb hX hbl hbA hS (la_in (k := 2) hi (by decide) hL rfl) dL_law_480 ?_
  obtain ⟨r, u1, v1, e1, e2, hrel1⟩ := hop u v hrel (xs ((nI i) + 1).toNatClampNeg) (xs ((nI i) + 2).toNatClampNeg)
  refine la_call (sh := shC) (sh' := shR) (a := 3) (b := 0) (k := 0) (ci := 7) (T := TX7) (N := 8) (As := [.int (xs ((nI i) + 1).toNatClampNeg), .int (xs ((nI i) + 2).toNatClampNeg)]) (rest := []) S hK hZC la_subC la_disC hPC hPR hS (c_X7_later l (D, cA, adL s.heap.size a0 a1) (XD_C D cA s.heap.size a0 a1) (xs ((nI i) + 1).toNatClampNeg) (xs ((nI i) + 2).toNatClampNeg) u e1) ⟨wd_599, wd_596, wd_597, wd_598, wd_54⟩ hd_X7_later ⟨by decide, by decide⟩ rfl (kyO (by decide)) rfl rfl hl.1 rfl (Nat.le_of_ble_eq_true rfl) dL_law_481 ⟨by decide, by decide⟩ (fun H locs hPC hPR hS => ?_)
  refine lv_aload_n hx hb dL_law_484 rfl (lv_at hl 2 rfl) ?_
  refine lv_aload_n hx hb dL_law_485 rfl (lv_at hl 0 rfl) ?_
  refine lv_iload_n hx hb dL_law_486 rfl (lv_at hl 3 rfl) ?_
  refine lv_iconst (v := 1) hx hb dL_law_487 (by decide) ?_
  refine lv_iadd hx hb dL_law_488 ?_
  refine va_sld (A := CA s.heap.size) hx hb hX hbl hbA hS (la_in (k := 1) hi (by decide) hL rfl) dL_law_489 ?_
  refine lv_aload_n hx hb dL_law_490 rfl (lv_at hl 0 rfl) ?_
  refine lv_iload_n hx hb dL_law_491 rfl (lv_at hl 3 rfl) ?_
  refine lv_iconst (v := 2) hx hb dL_law_492 (by decide) ?_
  refine lv_iadd hx hb dL_law_493 ?_
  refine va_sld (A := CA s.heap.size) hx hb hX hbl hbA hS (la_in (k := 2) hi (by decide) hL rfl) dL_law_494 ?_
  refine la_call (sh := shR) (sh' := shC) (a := 9) (b := 0) (k := 0) (ci := 8) (T := TX8) (N := 31) (As := [.int (xs ((nI i) + 1).toNatClampNeg), .int (xs ((nI i) + 2).toNatClampNeg)]) (rest := [.int r]) S hK hZR la_subR la_disR hPR hPC hS (c_X8_later l (D, cA, adL s.heap.size a0 a1) N (XD_R D cA s.heap.size a0 a1) (xs ((nI i) + 1).toNatClampNeg) (xs ((nI i) + 2).toNatClampNeg) v e2) ⟨wd_1113, wd_1110, wd_1111, wd_1112, wd_62⟩ hd_X8_later ⟨by decide, by decide⟩ rfl (kyM (by decide)) rfl rfl hl.1 rfl (Nat.le_of_ble_eq_true rfl) dL_law_495 ⟨by decide, by decide⟩ (fun H locs hPR hPC hS => ?_)
  refine lv_icmp_eq (tgt := 1211) hx hb dL_law_498 (by decide) (fun _ => ?_) (fun h => absurd rfl h)
  exact hnext u1 v1 _ _ _ hrel1 hPC hPR hS hl
set_option maxRecDepth 100000 in
set_option maxHeartbeats 4000000 in
theorem law_again (N : Nat) {Rel : Mm → Mm → Prop} (hop : Op_again N Rel) {p : Program} {l : Launch} {e : Env} {s : State} {m : MethodId} {below : List Frame} {meth : Method} {c : Code} {D : va_G} {cA : Nat → ClassId} {a0 a1 b L : Nat} {xs : Nat → Int32} (hL : L ≤ 3584) (C0 : lw_At p s m meth c b L xs) (hK : XK (D, cA, adL s.heap.size a0 a1) s) (hZC : XZ shC (D, cA, adL s.heap.size a0 a1) s s.heap) (hZR : XZ shR (D, cA, adL s.heap.size a0 a1) s s.heap) {i : Nat} (hi : i + 7 ≤ L) (hnext : ∀ (u v : Mm) (H : Heap) (locs : List Loc) (ls : Array Slot), Rel u v → XP shC (D, cA, adL s.heap.size a0 a1) u H → XP shR (D, cA, adL s.heap.size a0 a1) v H → va_S (CA s.heap.size) s.heap H locs → lv_has ls 4 [(0, .ref b), (1, .ref (adL s.heap.size a0 a1 (3, 0, 0))), (2, .ref (adL s.heap.size a0 a1 (9, 0, 0))), (3, .int (nI i))] → W p l e room_1 s m #[Value.ref b] below meth c H locs 207 2270 (lw_Z below #[Value.ref b] s) (F0 m 1211 ls [])) {u v : Mm} (hrel : Rel u v) {H : Heap} {locs : List Loc} {ls : Array Slot} (hPC : XP shC (D, cA, adL s.heap.size a0 a1) u H) (hPR : XP shR (D, cA, adL s.heap.size a0 a1) v H) (hS : va_S (CA s.heap.size) s.heap H locs) (hl : lv_has ls 4 [(0, .ref b), (1, .ref (adL s.heap.size a0 a1 (3, 0, 0))), (2, .ref (adL s.heap.size a0 a1 (9, 0, 0))), (3, .int (nI i))]) : W p l e room_1 s m #[Value.ref b] below meth c H locs 207 2270 (lw_Z below #[Value.ref b] s) (F0 m 503 ls []) := by
  obtain ⟨hx, hb, hr, hml, hown, hts, hX, hbl, hlocks, hgv⟩ := C0
  have S : CallFix p m c code 4 s #[Value.ref b] lw_tbl RL := ⟨hx, hb, hml, hown, hts⟩
  have hbA : ¬ CA s.heap.size b := Nat.not_le.mpr hbl
  refine lv_aload_n hx hb dL_law_503 rfl (lv_at hl 1 rfl) ?_
  refine lv_aload_n hx hb dL_law_504 rfl (lv_at hl 0 rfl) ?_
  refine lv_iload_n hx hb dL_law_505 rfl (lv_at hl 3 rfl) ?_
  refine lv_iconst (v := 1) hx hb dL_law_506 (by decide) ?_
  refine lv_iadd hx hb dL_law_507 ?_
  refine va_sld (A := CA s.heap.size) hx hb hX hbl hbA hS (la_in (k := 1) hi (by decide) hL rfl) dL_law_508 ?_
  obtain ⟨r, u1, v1, e1, e2, hrel1⟩ := hop u v hrel (xs ((nI i) + 1).toNatClampNeg)
  refine la_call (sh := shC) (sh' := shR) (a := 3) (b := 0) (k := 0) (ci := 7) (T := TX7) (N := 8) (As := [.int (xs ((nI i) + 1).toNatClampNeg)]) (rest := []) S hK hZC la_subC la_disC hPC hPR hS (c_X7_again l (D, cA, adL s.heap.size a0 a1) (XD_C D cA s.heap.size a0 a1) (xs ((nI i) + 1).toNatClampNeg) u e1) ⟨wd_603, wd_600, wd_601, wd_602, wd_54⟩ hd_X7_again ⟨by decide, by decide⟩ rfl (kyO (by decide)) rfl rfl hl.1 rfl (Nat.le_of_ble_eq_true rfl) dL_law_509 ⟨by decide, by decide⟩ (fun H locs hPC hPR hS => ?_)
  refine lv_aload_n hx hb dL_law_512 rfl (lv_at hl 2 rfl) ?_
  refine lv_aload_n hx hb dL_law_513 rfl (lv_at hl 0 rfl) ?_
  refine lv_iload_n hx hb dL_law_514 rfl (lv_at hl 3 rfl) ?_
  refine lv_iconst (v := 1) hx hb dL_law_515 (by decide) ?_
  refine lv_iadd hx hb dL_law_516 ?_
  refine va_sld (A := CA s.heap.size) hx hb hX hbl hbA hS (la_in (k := 1) hi (by decide) hL rfl) dL_law_517 ?_
  refine la_call (sh := shR) (sh' := shC) (a := 9) (b := 0) (k := 0) (ci := 8) (T := TX8) (N := 31) (As := [.int (xs ((nI i) + 1).toNatClampNeg)]) (rest := [.int r]) S hK hZR la_subR la_disR hPR hPC hS (c_X8_again l (D, cA, adL s.heap.size a0 a1) N (XD_R D cA s.heap.size a0 a1) (xs ((nI i) + 1).toNatClampNeg) v e2) ⟨wd_1117, wd_1114, wd_1115, wd_1116, wd_62⟩ hd_X8_again ⟨by decide, by decide⟩ rfl (kyM (by decide)) rfl rfl hl.1 rfl (Nat.le_of_ble_eq_true rfl) dL_law_518 ⟨by decide, by decide⟩ (fun H locs hPR hPC hS => ?_)
  refine lv_icmp_eq (tgt := 1211) hx hb dL_law_521 (by decide) (fun _ => ?_) (fun h => absurd rfl h)
  exact hnext u1 v1 _ _ _ hrel1 hPC hPR hS hl
set_option maxRecDepth 100000 in
set_option maxHeartbeats 4000000 in
theorem law_put (N : Nat) {Rel : Mm → Mm → Prop} (hop : Op_put N Rel) {p : Program} {l : Launch} {e : Env} {s : State} {m : MethodId} {below : List Frame} {meth : Method} {c : Code} {D : va_G} {cA : Nat → ClassId} {a0 a1 b L : Nat} {xs : Nat → Int32} (hL : L ≤ 3584) (C0 : lw_At p s m meth c b L xs) (hK : XK (D, cA, adL s.heap.size a0 a1) s) (hZC : XZ shC (D, cA, adL s.heap.size a0 a1) s s.heap) (hZR : XZ shR (D, cA, adL s.heap.size a0 a1) s s.heap) {i : Nat} (hi : i + 7 ≤ L) (hnext : ∀ (u v : Mm) (H : Heap) (locs : List Loc) (ls : Array Slot), Rel u v → XP shC (D, cA, adL s.heap.size a0 a1) u H → XP shR (D, cA, adL s.heap.size a0 a1) v H → va_S (CA s.heap.size) s.heap H locs → lv_has ls 4 [(0, .ref b), (1, .ref (adL s.heap.size a0 a1 (3, 0, 0))), (2, .ref (adL s.heap.size a0 a1 (9, 0, 0))), (3, .int (nI i))] → W p l e room_1 s m #[Value.ref b] below meth c H locs 207 2270 (lw_Z below #[Value.ref b] s) (F0 m 1211 ls [])) {u v : Mm} (hrel : Rel u v) {H : Heap} {locs : List Loc} {ls : Array Slot} (hPC : XP shC (D, cA, adL s.heap.size a0 a1) u H) (hPR : XP shR (D, cA, adL s.heap.size a0 a1) v H) (hS : va_S (CA s.heap.size) s.heap H locs) (hl : lv_has ls 4 [(0, .ref b), (1, .ref (adL s.heap.size a0 a1 (3, 0, 0))), (2, .ref (adL s.heap.size a0 a1 (9, 0, 0))), (3, .int (nI i))]) : W p l e room_1 s m #[Value.ref b] below meth c H locs 207 2270 (lw_Z below #[Value.ref b] s) (F0 m 526 ls []) := by
  obtain ⟨hx, hb, hr, hml, hown, hts, hX, hbl, hlocks, hgv⟩ := C0
  have S : CallFix p m c code 4 s #[Value.ref b] lw_tbl RL := ⟨hx, hb, hml, hown, hts⟩
  have hbA : ¬ CA s.heap.size b := Nat.not_le.mpr hbl
  refine lv_aload_n hx hb dL_law_526 rfl (lv_at hl 1 rfl) ?_
  refine lv_aload_n hx hb dL_law_527 rfl (lv_at hl 0 rfl) ?_
  refine lv_iload_n hx hb dL_law_528 rfl (lv_at hl 3 rfl) ?_
  refine lv_iconst (v := 1) hx hb dL_law_529 (by decide) ?_
  refine lv_iadd hx hb dL_law_530 ?_
  refine va_sld (A := CA s.heap.size) hx hb hX hbl hbA hS (la_in (k := 1) hi (by decide) hL rfl) dL_law_531 ?_
  refine lv_aload_n hx hb dL_law_532 rfl (lv_at hl 0 rfl) ?_
  refine lv_iload_n hx hb dL_law_533 rfl (lv_at hl 3 rfl) ?_
  refine lv_iconst (v := 2) hx hb dL_law_534 (by decide) ?_
  refine lv_iadd hx hb dL_law_535 ?_
  refine va_sld (A := CA s.heap.size) hx hb hX hbl hbA hS (la_in (k := 2) hi (by decide) hL rfl) dL_law_536 ?_
  obtain ⟨r, u1, v1, e1, e2, hrel1⟩ := hop u v hrel (xs ((nI i) + 1).toNatClampNeg) (xs ((nI i) + 2).toNatClampNeg)
  refine la_call (sh := shC) (sh' := shR) (a := 3) (b := 0) (k := 0) (ci := 7) (T := TX7) (N := 8) (As := [.int (xs ((nI i) + 1).toNatClampNeg), .int (xs ((nI i) + 2).toNatClampNeg)]) (rest := []) S hK hZC la_subC la_disC hPC hPR hS (c_X7_put l (D, cA, adL s.heap.size a0 a1) (XD_C D cA s.heap.size a0 a1) (xs ((nI i) + 1).toNatClampNeg) (xs ((nI i) + 2).toNatClampNeg) u e1) ⟨wd_608, wd_605, wd_606, wd_607, wd_54⟩ hd_X7_put ⟨by decide, by decide⟩ rfl (kyO (by decide)) rfl rfl hl.1 rfl (Nat.le_of_ble_eq_true rfl) dL_law_537 ⟨by decide, by decide⟩ (fun H locs hPC hPR hS => ?_)
  refine lv_aload_n hx hb dL_law_540 rfl (lv_at hl 2 rfl) ?_
  refine lv_aload_n hx hb dL_law_541 rfl (lv_at hl 0 rfl) ?_
  refine lv_iload_n hx hb dL_law_542 rfl (lv_at hl 3 rfl) ?_
  refine lv_iconst (v := 1) hx hb dL_law_543 (by decide) ?_
  refine lv_iadd hx hb dL_law_544 ?_
  refine va_sld (A := CA s.heap.size) hx hb hX hbl hbA hS (la_in (k := 1) hi (by decide) hL rfl) dL_law_545 ?_
  refine lv_aload_n hx hb dL_law_546 rfl (lv_at hl 0 rfl) ?_
  refine lv_iload_n hx hb dL_law_547 rfl (lv_at hl 3 rfl) ?_
  refine lv_iconst (v := 2) hx hb dL_law_548 (by decide) ?_
  refine lv_iadd hx hb dL_law_549 ?_
  refine va_sld (A := CA s.heap.size) hx hb hX hbl hbA hS (la_in (k := 2) hi (by decide) hL rfl) dL_law_550 ?_
  refine la_call (sh := shR) (sh' := shC) (a := 9) (b := 0) (k := 0) (ci := 8) (T := TX8) (N := 31) (As := [.int (xs ((nI i) + 1).toNatClampNeg), .int (xs ((nI i) + 2).toNatClampNeg)]) (rest := [.int r]) S hK hZR la_subR la_disR hPR hPC hS (c_X8_put l (D, cA, adL s.heap.size a0 a1) N (XD_R D cA s.heap.size a0 a1) (xs ((nI i) + 1).toNatClampNeg) (xs ((nI i) + 2).toNatClampNeg) v e2) ⟨wd_1121, wd_1118, wd_1119, wd_1120, wd_62⟩ hd_X8_put ⟨by decide, by decide⟩ rfl (kyM (by decide)) rfl rfl hl.1 rfl (Nat.le_of_ble_eq_true rfl) dL_law_551 ⟨by decide, by decide⟩ (fun H locs hPR hPC hS => ?_)
  refine lv_icmp_eq (tgt := 1211) hx hb dL_law_554 (by decide) (fun _ => ?_) (fun h => absurd rfl h)
  exact hnext u1 v1 _ _ _ hrel1 hPC hPR hS hl
set_option maxRecDepth 100000 in
set_option maxHeartbeats 4000000 in
theorem law_drift (N : Nat) {Rel : Mm → Mm → Prop} (hop : Op_drift N Rel) {p : Program} {l : Launch} {e : Env} {s : State} {m : MethodId} {below : List Frame} {meth : Method} {c : Code} {D : va_G} {cA : Nat → ClassId} {a0 a1 b L : Nat} {xs : Nat → Int32} (hL : L ≤ 3584) (C0 : lw_At p s m meth c b L xs) (hK : XK (D, cA, adL s.heap.size a0 a1) s) (hZC : XZ shC (D, cA, adL s.heap.size a0 a1) s s.heap) (hZR : XZ shR (D, cA, adL s.heap.size a0 a1) s s.heap) {i : Nat} (hi : i + 7 ≤ L) (hnext : ∀ (u v : Mm) (H : Heap) (locs : List Loc) (ls : Array Slot), Rel u v → XP shC (D, cA, adL s.heap.size a0 a1) u H → XP shR (D, cA, adL s.heap.size a0 a1) v H → va_S (CA s.heap.size) s.heap H locs → lv_has ls 4 [(0, .ref b), (1, .ref (adL s.heap.size a0 a1 (3, 0, 0))), (2, .ref (adL s.heap.size a0 a1 (9, 0, 0))), (3, .int (nI i))] → W p l e room_1 s m #[Value.ref b] below meth c H locs 207 2270 (lw_Z below #[Value.ref b] s) (F0 m 1211 ls [])) {u v : Mm} (hrel : Rel u v) {H : Heap} {locs : List Loc} {ls : Array Slot} (hPC : XP shC (D, cA, adL s.heap.size a0 a1) u H) (hPR : XP shR (D, cA, adL s.heap.size a0 a1) v H) (hS : va_S (CA s.heap.size) s.heap H locs) (hl : lv_has ls 4 [(0, .ref b), (1, .ref (adL s.heap.size a0 a1 (3, 0, 0))), (2, .ref (adL s.heap.size a0 a1 (9, 0, 0))), (3, .int (nI i))]) : W p l e room_1 s m #[Value.ref b] below meth c H locs 207 2270 (lw_Z below #[Value.ref b] s) (F0 m 559 ls []) := by
  obtain ⟨hx, hb, hr, hml, hown, hts, hX, hbl, hlocks, hgv⟩ := C0
  have S : CallFix p m c code 4 s #[Value.ref b] lw_tbl RL := ⟨hx, hb, hml, hown, hts⟩
  have hbA : ¬ CA s.heap.size b := Nat.not_le.mpr hbl
  refine lv_aload_n hx hb dL_law_559 rfl (lv_at hl 1 rfl) ?_
  refine lv_aload_n hx hb dL_law_560 rfl (lv_at hl 0 rfl) ?_
  refine lv_iload_n hx hb dL_law_561 rfl (lv_at hl 3 rfl) ?_
  refine lv_iconst (v := 1) hx hb dL_law_562 (by decide) ?_
  refine lv_iadd hx hb dL_law_563 ?_
  refine va_sld (A := CA s.heap.size) hx hb hX hbl hbA hS (la_in (k := 1) hi (by decide) hL rfl) dL_law_564 ?_
  obtain ⟨r, u1, v1, e1, e2, hrel1⟩ := hop u v hrel (xs ((nI i) + 1).toNatClampNeg)
  refine la_call (sh := shC) (sh' := shR) (a := 3) (b := 0) (k := 0) (ci := 7) (T := TX7) (N := 8) (As := [.int (xs ((nI i) + 1).toNatClampNeg)]) (rest := []) S hK hZC la_subC la_disC hPC hPR hS (c_X7_drift l (D, cA, adL s.heap.size a0 a1) N (XD_C D cA s.heap.size a0 a1) (xs ((nI i) + 1).toNatClampNeg) u e1) ⟨wd_612, wd_609, wd_610, wd_611, wd_54⟩ hd_X7_drift ⟨by decide, by decide⟩ rfl (kyO (by decide)) rfl rfl hl.1 rfl (Nat.le_of_ble_eq_true rfl) dL_law_565 ⟨by decide, by decide⟩ (fun H locs hPC hPR hS => ?_)
  refine lv_aload_n hx hb dL_law_568 rfl (lv_at hl 2 rfl) ?_
  refine lv_aload_n hx hb dL_law_569 rfl (lv_at hl 0 rfl) ?_
  refine lv_iload_n hx hb dL_law_570 rfl (lv_at hl 3 rfl) ?_
  refine lv_iconst (v := 1) hx hb dL_law_571 (by decide) ?_
  refine lv_iadd hx hb dL_law_572 ?_
  refine va_sld (A := CA s.heap.size) hx hb hX hbl hbA hS (la_in (k := 1) hi (by decide) hL rfl) dL_law_573 ?_
  refine la_call (sh := shR) (sh' := shC) (a := 9) (b := 0) (k := 0) (ci := 8) (T := TX8) (N := 31) (As := [.int (xs ((nI i) + 1).toNatClampNeg)]) (rest := [.int r]) S hK hZR la_subR la_disR hPR hPC hS (c_X8_drift l (D, cA, adL s.heap.size a0 a1) N (XD_R D cA s.heap.size a0 a1) (xs ((nI i) + 1).toNatClampNeg) v e2) ⟨wd_1125, wd_1122, wd_1123, wd_1124, wd_62⟩ hd_X8_drift ⟨by decide, by decide⟩ rfl (kyM (by decide)) rfl rfl hl.1 rfl (Nat.le_of_ble_eq_true rfl) dL_law_574 ⟨by decide, by decide⟩ (fun H locs hPR hPC hS => ?_)
  refine lv_icmp_eq (tgt := 1211) hx hb dL_law_577 (by decide) (fun _ => ?_) (fun h => absurd rfl h)
  exact hnext u1 v1 _ _ _ hrel1 hPC hPR hS hl
set_option maxRecDepth 100000 in
set_option maxHeartbeats 4000000 in
theorem law_undo (N : Nat) {Rel : Mm → Mm → Prop} (hop : Op_undo N Rel) {p : Program} {l : Launch} {e : Env} {s : State} {m : MethodId} {below : List Frame} {meth : Method} {c : Code} {D : va_G} {cA : Nat → ClassId} {a0 a1 b L : Nat} {xs : Nat → Int32} (hL : L ≤ 3584) (C0 : lw_At p s m meth c b L xs) (hK : XK (D, cA, adL s.heap.size a0 a1) s) (hZC : XZ shC (D, cA, adL s.heap.size a0 a1) s s.heap) (hZR : XZ shR (D, cA, adL s.heap.size a0 a1) s s.heap) {i : Nat} (hi : i + 7 ≤ L) (hnext : ∀ (u v : Mm) (H : Heap) (locs : List Loc) (ls : Array Slot), Rel u v → XP shC (D, cA, adL s.heap.size a0 a1) u H → XP shR (D, cA, adL s.heap.size a0 a1) v H → va_S (CA s.heap.size) s.heap H locs → lv_has ls 4 [(0, .ref b), (1, .ref (adL s.heap.size a0 a1 (3, 0, 0))), (2, .ref (adL s.heap.size a0 a1 (9, 0, 0))), (3, .int (nI i))] → W p l e room_1 s m #[Value.ref b] below meth c H locs 207 2270 (lw_Z below #[Value.ref b] s) (F0 m 1211 ls [])) {u v : Mm} (hrel : Rel u v) {H : Heap} {locs : List Loc} {ls : Array Slot} (hPC : XP shC (D, cA, adL s.heap.size a0 a1) u H) (hPR : XP shR (D, cA, adL s.heap.size a0 a1) v H) (hS : va_S (CA s.heap.size) s.heap H locs) (hl : lv_has ls 4 [(0, .ref b), (1, .ref (adL s.heap.size a0 a1 (3, 0, 0))), (2, .ref (adL s.heap.size a0 a1 (9, 0, 0))), (3, .int (nI i))]) : W p l e room_1 s m #[Value.ref b] below meth c H locs 207 2270 (lw_Z below #[Value.ref b] s) (F0 m 582 ls []) := by
  obtain ⟨hx, hb, hr, hml, hown, hts, hX, hbl, hlocks, hgv⟩ := C0
  have S : CallFix p m c code 4 s #[Value.ref b] lw_tbl RL := ⟨hx, hb, hml, hown, hts⟩
  have hbA : ¬ CA s.heap.size b := Nat.not_le.mpr hbl
  refine lv_aload_n hx hb dL_law_582 rfl (lv_at hl 1 rfl) ?_
  obtain ⟨r, u1, v1, e1, e2, hrel1⟩ := hop u v hrel
  refine la_call (sh := shC) (sh' := shR) (a := 3) (b := 0) (k := 0) (ci := 7) (T := TX7) (N := 8) (As := []) (rest := []) S hK hZC la_subC la_disC hPC hPR hS (c_X7_undo l (D, cA, adL s.heap.size a0 a1) (XD_C D cA s.heap.size a0 a1) u e1) ⟨wd_616, wd_613, wd_614, wd_615, wd_54⟩ hd_X7_undo ⟨by decide, by decide⟩ rfl (kyO (by decide)) rfl rfl hl.1 rfl (Nat.le_of_ble_eq_true rfl) dL_law_583 ⟨by decide, by decide⟩ (fun H locs hPC hPR hS => ?_)
  refine lv_aload_n hx hb dL_law_586 rfl (lv_at hl 2 rfl) ?_
  refine la_call (sh := shR) (sh' := shC) (a := 9) (b := 0) (k := 0) (ci := 8) (T := TX8) (N := 31) (As := []) (rest := [.int r]) S hK hZR la_subR la_disR hPR hPC hS (c_X8_undo l (D, cA, adL s.heap.size a0 a1) N (XD_R D cA s.heap.size a0 a1) v e2) ⟨wd_1133, wd_1130, wd_1131, wd_1132, wd_62⟩ hd_X8_undo ⟨by decide, by decide⟩ rfl (kyM (by decide)) rfl rfl hl.1 rfl (Nat.le_of_ble_eq_true rfl) dL_law_587 ⟨by decide, by decide⟩ (fun H locs hPR hPC hS => ?_)
  refine lv_icmp_eq (tgt := 1211) hx hb dL_law_590 (by decide) (fun _ => ?_) (fun h => absurd rfl h)
  exact hnext u1 v1 _ _ _ hrel1 hPC hPR hS hl
set_option maxRecDepth 100000 in
set_option maxHeartbeats 4000000 in
theorem law_seed (N : Nat) {Rel : Mm → Mm → Prop} (hop : Op_seed N Rel) {p : Program} {l : Launch} {e : Env} {s : State} {m : MethodId} {below : List Frame} {meth : Method} {c : Code} {D : va_G} {cA : Nat → ClassId} {a0 a1 b L : Nat} {xs : Nat → Int32} (hL : L ≤ 3584) (C0 : lw_At p s m meth c b L xs) (hK : XK (D, cA, adL s.heap.size a0 a1) s) (hZC : XZ shC (D, cA, adL s.heap.size a0 a1) s s.heap) (hZR : XZ shR (D, cA, adL s.heap.size a0 a1) s s.heap) {i : Nat} (hi : i + 7 ≤ L) (hnext : ∀ (u v : Mm) (H : Heap) (locs : List Loc) (ls : Array Slot), Rel u v → XP shC (D, cA, adL s.heap.size a0 a1) u H → XP shR (D, cA, adL s.heap.size a0 a1) v H → va_S (CA s.heap.size) s.heap H locs → lv_has ls 4 [(0, .ref b), (1, .ref (adL s.heap.size a0 a1 (3, 0, 0))), (2, .ref (adL s.heap.size a0 a1 (9, 0, 0))), (3, .int (nI i))] → W p l e room_1 s m #[Value.ref b] below meth c H locs 207 2270 (lw_Z below #[Value.ref b] s) (F0 m 1211 ls [])) {u v : Mm} (hrel : Rel u v) {H : Heap} {locs : List Loc} {ls : Array Slot} (hPC : XP shC (D, cA, adL s.heap.size a0 a1) u H) (hPR : XP shR (D, cA, adL s.heap.size a0 a1) v H) (hS : va_S (CA s.heap.size) s.heap H locs) (hl : lv_has ls 4 [(0, .ref b), (1, .ref (adL s.heap.size a0 a1 (3, 0, 0))), (2, .ref (adL s.heap.size a0 a1 (9, 0, 0))), (3, .int (nI i))]) : W p l e room_1 s m #[Value.ref b] below meth c H locs 207 2270 (lw_Z below #[Value.ref b] s) (F0 m 595 ls []) := by
  obtain ⟨hx, hb, hr, hml, hown, hts, hX, hbl, hlocks, hgv⟩ := C0
  have S : CallFix p m c code 4 s #[Value.ref b] lw_tbl RL := ⟨hx, hb, hml, hown, hts⟩
  have hbA : ¬ CA s.heap.size b := Nat.not_le.mpr hbl
  refine lv_aload_n hx hb dL_law_595 rfl (lv_at hl 1 rfl) ?_
  refine lv_aload_n hx hb dL_law_596 rfl (lv_at hl 0 rfl) ?_
  refine lv_iload_n hx hb dL_law_597 rfl (lv_at hl 3 rfl) ?_
  refine lv_iconst (v := 1) hx hb dL_law_598 (by decide) ?_
  refine lv_iadd hx hb dL_law_599 ?_
  refine va_sld (A := CA s.heap.size) hx hb hX hbl hbA hS (la_in (k := 1) hi (by decide) hL rfl) dL_law_600 ?_
  obtain ⟨r, u1, v1, e1, e2, hrel1⟩ := hop u v hrel (xs ((nI i) + 1).toNatClampNeg)
  refine la_call (sh := shC) (sh' := shR) (a := 3) (b := 0) (k := 0) (ci := 7) (T := TX7) (N := 8) (As := [.int (xs ((nI i) + 1).toNatClampNeg)]) (rest := []) S hK hZC la_subC la_disC hPC hPR hS (c_X7_seed l (D, cA, adL s.heap.size a0 a1) (XD_C D cA s.heap.size a0 a1) (xs ((nI i) + 1).toNatClampNeg) u e1) ⟨wd_624, wd_621, wd_622, wd_623, wd_54⟩ hd_X7_seed ⟨by decide, by decide⟩ rfl (kyO (by decide)) rfl rfl hl.1 rfl (Nat.le_of_ble_eq_true rfl) dL_law_601 ⟨by decide, by decide⟩ (fun H locs hPC hPR hS => ?_)
  refine lv_aload_n hx hb dL_law_604 rfl (lv_at hl 2 rfl) ?_
  refine lv_aload_n hx hb dL_law_605 rfl (lv_at hl 0 rfl) ?_
  refine lv_iload_n hx hb dL_law_606 rfl (lv_at hl 3 rfl) ?_
  refine lv_iconst (v := 1) hx hb dL_law_607 (by decide) ?_
  refine lv_iadd hx hb dL_law_608 ?_
  refine va_sld (A := CA s.heap.size) hx hb hX hbl hbA hS (la_in (k := 1) hi (by decide) hL rfl) dL_law_609 ?_
  refine la_call (sh := shR) (sh' := shC) (a := 9) (b := 0) (k := 0) (ci := 8) (T := TX8) (N := 31) (As := [.int (xs ((nI i) + 1).toNatClampNeg)]) (rest := [.int r]) S hK hZR la_subR la_disR hPR hPC hS (c_X8_seed l (D, cA, adL s.heap.size a0 a1) (XD_R D cA s.heap.size a0 a1) (xs ((nI i) + 1).toNatClampNeg) v e2) ⟨wd_1137, wd_1134, wd_1135, wd_1136, wd_62⟩ hd_X8_seed ⟨by decide, by decide⟩ rfl (kyM (by decide)) rfl rfl hl.1 rfl (Nat.le_of_ble_eq_true rfl) dL_law_610 ⟨by decide, by decide⟩ (fun H locs hPR hPC hS => ?_)
  refine lv_icmp_eq (tgt := 1211) hx hb dL_law_613 (by decide) (fun _ => ?_) (fun h => absurd rfl h)
  exact hnext u1 v1 _ _ _ hrel1 hPC hPR hS hl
set_option maxRecDepth 100000 in
set_option maxHeartbeats 4000000 in
theorem law_then (N : Nat) {Rel : Mm → Mm → Prop} (hop : Op_then N Rel) {p : Program} {l : Launch} {e : Env} {s : State} {m : MethodId} {below : List Frame} {meth : Method} {c : Code} {D : va_G} {cA : Nat → ClassId} {a0 a1 b L : Nat} {xs : Nat → Int32} (hL : L ≤ 3584) (C0 : lw_At p s m meth c b L xs) (hK : XK (D, cA, adL s.heap.size a0 a1) s) (hZC : XZ shC (D, cA, adL s.heap.size a0 a1) s s.heap) (hZR : XZ shR (D, cA, adL s.heap.size a0 a1) s s.heap) {i : Nat} (hi : i + 7 ≤ L) (hnext : ∀ (u v : Mm) (H : Heap) (locs : List Loc) (ls : Array Slot), Rel u v → XP shC (D, cA, adL s.heap.size a0 a1) u H → XP shR (D, cA, adL s.heap.size a0 a1) v H → va_S (CA s.heap.size) s.heap H locs → lv_has ls 4 [(0, .ref b), (1, .ref (adL s.heap.size a0 a1 (3, 0, 0))), (2, .ref (adL s.heap.size a0 a1 (9, 0, 0))), (3, .int (nI i))] → W p l e room_1 s m #[Value.ref b] below meth c H locs 207 2270 (lw_Z below #[Value.ref b] s) (F0 m 1211 ls [])) {u v : Mm} (hrel : Rel u v) {H : Heap} {locs : List Loc} {ls : Array Slot} (hPC : XP shC (D, cA, adL s.heap.size a0 a1) u H) (hPR : XP shR (D, cA, adL s.heap.size a0 a1) v H) (hS : va_S (CA s.heap.size) s.heap H locs) (hl : lv_has ls 4 [(0, .ref b), (1, .ref (adL s.heap.size a0 a1 (3, 0, 0))), (2, .ref (adL s.heap.size a0 a1 (9, 0, 0))), (3, .int (nI i))]) : W p l e room_1 s m #[Value.ref b] below meth c H locs 207 2270 (lw_Z below #[Value.ref b] s) (F0 m 618 ls []) := by
  obtain ⟨hx, hb, hr, hml, hown, hts, hX, hbl, hlocks, hgv⟩ := C0
  have S : CallFix p m c code 4 s #[Value.ref b] lw_tbl RL := ⟨hx, hb, hml, hown, hts⟩
  have hbA : ¬ CA s.heap.size b := Nat.not_le.mpr hbl
  refine lv_aload_n hx hb dL_law_618 rfl (lv_at hl 1 rfl) ?_
  refine lv_aload_n hx hb dL_law_619 rfl (lv_at hl 0 rfl) ?_
  refine lv_iload_n hx hb dL_law_620 rfl (lv_at hl 3 rfl) ?_
  refine lv_iconst (v := 1) hx hb dL_law_621 (by decide) ?_
  refine lv_iadd hx hb dL_law_622 ?_
  refine va_sld (A := CA s.heap.size) hx hb hX hbl hbA hS (la_in (k := 1) hi (by decide) hL rfl) dL_law_623 ?_
  refine lv_aload_n hx hb dL_law_624 rfl (lv_at hl 0 rfl) ?_
  refine lv_iload_n hx hb dL_law_625 rfl (lv_at hl 3 rfl) ?_
  refine lv_iconst (v := 2) hx hb dL_law_626 (by decide) ?_
  refine lv_iadd hx hb dL_law_627 ?_
  refine va_sld (A := CA s.heap.size) hx hb hX hbl hbA hS (la_in (k := 2) hi (by decide) hL rfl) dL_law_628 ?_
  obtain ⟨r, u1, v1, e1, e2, hrel1⟩ := hop u v hrel (xs ((nI i) + 1).toNatClampNeg) (xs ((nI i) + 2).toNatClampNeg)
  refine la_call (sh := shC) (sh' := shR) (a := 3) (b := 0) (k := 0) (ci := 7) (T := TX7) (N := 8) (As := [.int (xs ((nI i) + 1).toNatClampNeg), .int (xs ((nI i) + 2).toNatClampNeg)]) (rest := []) S hK hZC la_subC la_disC hPC hPR hS (c_X7_then l (D, cA, adL s.heap.size a0 a1) N (XD_C D cA s.heap.size a0 a1) (xs ((nI i) + 1).toNatClampNeg) (xs ((nI i) + 2).toNatClampNeg) u e1) ⟨wd_628, wd_625, wd_626, wd_627, wd_54⟩ hd_X7_then ⟨by decide, by decide⟩ rfl (kyO (by decide)) rfl rfl hl.1 rfl (Nat.le_of_ble_eq_true rfl) dL_law_629 ⟨by decide, by decide⟩ (fun H locs hPC hPR hS => ?_)
  refine lv_aload_n hx hb dL_law_632 rfl (lv_at hl 2 rfl) ?_
  refine lv_aload_n hx hb dL_law_633 rfl (lv_at hl 0 rfl) ?_
  refine lv_iload_n hx hb dL_law_634 rfl (lv_at hl 3 rfl) ?_
  refine lv_iconst (v := 1) hx hb dL_law_635 (by decide) ?_
  refine lv_iadd hx hb dL_law_636 ?_
  refine va_sld (A := CA s.heap.size) hx hb hX hbl hbA hS (la_in (k := 1) hi (by decide) hL rfl) dL_law_637 ?_
  refine lv_aload_n hx hb dL_law_638 rfl (lv_at hl 0 rfl) ?_
  refine lv_iload_n hx hb dL_law_639 rfl (lv_at hl 3 rfl) ?_
  refine lv_iconst (v := 2) hx hb dL_law_640 (by decide) ?_
  refine lv_iadd hx hb dL_law_641 ?_
  refine va_sld (A := CA s.heap.size) hx hb hX hbl hbA hS (la_in (k := 2) hi (by decide) hL rfl) dL_law_642 ?_
  refine la_call (sh := shR) (sh' := shC) (a := 9) (b := 0) (k := 0) (ci := 8) (T := TX8) (N := 31) (As := [.int (xs ((nI i) + 1).toNatClampNeg), .int (xs ((nI i) + 2).toNatClampNeg)]) (rest := [.int r]) S hK hZR la_subR la_disR hPR hPC hS (c_X8_then l (D, cA, adL s.heap.size a0 a1) N (XD_R D cA s.heap.size a0 a1) (xs ((nI i) + 1).toNatClampNeg) (xs ((nI i) + 2).toNatClampNeg) v e2) ⟨wd_1141, wd_1138, wd_1139, wd_1140, wd_62⟩ hd_X8_then ⟨by decide, by decide⟩ rfl (kyM (by decide)) rfl rfl hl.1 rfl (Nat.le_of_ble_eq_true rfl) dL_law_643 ⟨by decide, by decide⟩ (fun H locs hPR hPC hS => ?_)
  refine lv_icmp_eq (tgt := 1211) hx hb dL_law_646 (by decide) (fun _ => ?_) (fun h => absurd rfl h)
  exact hnext u1 v1 _ _ _ hrel1 hPC hPR hS hl
set_option maxRecDepth 100000 in
set_option maxHeartbeats 4000000 in
theorem law_crosses (N : Nat) {Rel : Mm → Mm → Prop} (hop : Op_crosses N Rel) {p : Program} {l : Launch} {e : Env} {s : State} {m : MethodId} {below : List Frame} {meth : Method} {c : Code} {D : va_G} {cA : Nat → ClassId} {a0 a1 b L : Nat} {xs : Nat → Int32} (hL : L ≤ 3584) (C0 : lw_At p s m meth c b L xs) (hK : XK (D, cA, adL s.heap.size a0 a1) s) (hZC : XZ shC (D, cA, adL s.heap.size a0 a1) s s.heap) (hZR : XZ shR (D, cA, adL s.heap.size a0 a1) s s.heap) {i : Nat} (hi : i + 7 ≤ L) (hnext : ∀ (u v : Mm) (H : Heap) (locs : List Loc) (ls : Array Slot), Rel u v → XP shC (D, cA, adL s.heap.size a0 a1) u H → XP shR (D, cA, adL s.heap.size a0 a1) v H → va_S (CA s.heap.size) s.heap H locs → lv_has ls 4 [(0, .ref b), (1, .ref (adL s.heap.size a0 a1 (3, 0, 0))), (2, .ref (adL s.heap.size a0 a1 (9, 0, 0))), (3, .int (nI i))] → W p l e room_1 s m #[Value.ref b] below meth c H locs 207 2270 (lw_Z below #[Value.ref b] s) (F0 m 1211 ls [])) {u v : Mm} (hrel : Rel u v) {H : Heap} {locs : List Loc} {ls : Array Slot} (hPC : XP shC (D, cA, adL s.heap.size a0 a1) u H) (hPR : XP shR (D, cA, adL s.heap.size a0 a1) v H) (hS : va_S (CA s.heap.size) s.heap H locs) (hl : lv_has ls 4 [(0, .ref b), (1, .ref (adL s.heap.size a0 a1 (3, 0, 0))), (2, .ref (adL s.heap.size a0 a1 (9, 0, 0))), (3, .int (nI i))]) : W p l e room_1 s m #[Value.ref b] below meth c H locs 207 2270 (lw_Z below #[Value.ref b] s) (F0 m 651 ls []) := by
  obtain ⟨hx, hb, hr, hml, hown, hts, hX, hbl, hlocks, hgv⟩ := C0
  have S : CallFix p m c code 4 s #[Value.ref b] lw_tbl RL := ⟨hx, hb, hml, hown, hts⟩
  have hbA : ¬ CA s.heap.size b := Nat.not_le.mpr hbl
  refine lv_aload_n hx hb dL_law_651 rfl (lv_at hl 1 rfl) ?_
  refine lv_aload_n hx hb dL_law_652 rfl (lv_at hl 0 rfl) ?_
  refine lv_iload_n hx hb dL_law_653 rfl (lv_at hl 3 rfl) ?_
  refine lv_iconst (v := 1) hx hb dL_law_654 (by decide) ?_
  refine lv_iadd hx hb dL_law_655 ?_
  refine va_sld (A := CA s.heap.size) hx hb hX hbl hbA hS (la_in (k := 1) hi (by decide) hL rfl) dL_law_656 ?_
  obtain ⟨r, u1, v1, e1, e2, hrel1⟩ := hop u v hrel (xs ((nI i) + 1).toNatClampNeg)
  refine la_call (sh := shC) (sh' := shR) (a := 3) (b := 0) (k := 0) (ci := 7) (T := TX7) (N := 8) (As := [.int (xs ((nI i) + 1).toNatClampNeg)]) (rest := []) S hK hZC la_subC la_disC hPC hPR hS (c_X7_crosses l (D, cA, adL s.heap.size a0 a1) N (XD_C D cA s.heap.size a0 a1) (xs ((nI i) + 1).toNatClampNeg) u e1) ⟨wd_642, wd_639, wd_640, wd_641, wd_54⟩ hd_X7_crosses ⟨by decide, by decide⟩ rfl (kyO (by decide)) rfl rfl hl.1 rfl (Nat.le_of_ble_eq_true rfl) dL_law_657 ⟨by decide, by decide⟩ (fun H locs hPC hPR hS => ?_)
  refine lv_aload_n hx hb dL_law_660 rfl (lv_at hl 2 rfl) ?_
  refine lv_aload_n hx hb dL_law_661 rfl (lv_at hl 0 rfl) ?_
  refine lv_iload_n hx hb dL_law_662 rfl (lv_at hl 3 rfl) ?_
  refine lv_iconst (v := 1) hx hb dL_law_663 (by decide) ?_
  refine lv_iadd hx hb dL_law_664 ?_
  refine va_sld (A := CA s.heap.size) hx hb hX hbl hbA hS (la_in (k := 1) hi (by decide) hL rfl) dL_law_665 ?_
  refine la_call (sh := shR) (sh' := shC) (a := 9) (b := 0) (k := 0) (ci := 8) (T := TX8) (N := 31) (As := [.int (xs ((nI i) + 1).toNatClampNeg)]) (rest := [.int r]) S hK hZR la_subR la_disR hPR hPC hS (c_X8_crosses l (D, cA, adL s.heap.size a0 a1) N (XD_R D cA s.heap.size a0 a1) (xs ((nI i) + 1).toNatClampNeg) v e2) ⟨wd_1150, wd_1147, wd_1148, wd_1149, wd_62⟩ hd_X8_crosses ⟨by decide, by decide⟩ rfl (kyM (by decide)) rfl rfl hl.1 rfl (Nat.le_of_ble_eq_true rfl) dL_law_666 ⟨by decide, by decide⟩ (fun H locs hPR hPC hS => ?_)
  refine lv_icmp_eq (tgt := 1211) hx hb dL_law_669 (by decide) (fun _ => ?_) (fun h => absurd rfl h)
  exact hnext u1 v1 _ _ _ hrel1 hPC hPR hS hl
set_option maxRecDepth 100000 in
set_option maxHeartbeats 4000000 in
theorem law_last (N : Nat) {Rel : Mm → Mm → Prop} (hop : Op_last N Rel) {p : Program} {l : Launch} {e : Env} {s : State} {m : MethodId} {below : List Frame} {meth : Method} {c : Code} {D : va_G} {cA : Nat → ClassId} {a0 a1 b L : Nat} {xs : Nat → Int32} (hL : L ≤ 3584) (C0 : lw_At p s m meth c b L xs) (hK : XK (D, cA, adL s.heap.size a0 a1) s) (hZC : XZ shC (D, cA, adL s.heap.size a0 a1) s s.heap) (hZR : XZ shR (D, cA, adL s.heap.size a0 a1) s s.heap) {i : Nat} (hi : i + 7 ≤ L) (hnext : ∀ (u v : Mm) (H : Heap) (locs : List Loc) (ls : Array Slot), Rel u v → XP shC (D, cA, adL s.heap.size a0 a1) u H → XP shR (D, cA, adL s.heap.size a0 a1) v H → va_S (CA s.heap.size) s.heap H locs → lv_has ls 4 [(0, .ref b), (1, .ref (adL s.heap.size a0 a1 (3, 0, 0))), (2, .ref (adL s.heap.size a0 a1 (9, 0, 0))), (3, .int (nI i))] → W p l e room_1 s m #[Value.ref b] below meth c H locs 207 2270 (lw_Z below #[Value.ref b] s) (F0 m 1211 ls [])) {u v : Mm} (hrel : Rel u v) {H : Heap} {locs : List Loc} {ls : Array Slot} (hPC : XP shC (D, cA, adL s.heap.size a0 a1) u H) (hPR : XP shR (D, cA, adL s.heap.size a0 a1) v H) (hS : va_S (CA s.heap.size) s.heap H locs) (hl : lv_has ls 4 [(0, .ref b), (1, .ref (adL s.heap.size a0 a1 (3, 0, 0))), (2, .ref (adL s.heap.size a0 a1 (9, 0, 0))), (3, .int (nI i))]) : W p l e room_1 s m #[Value.ref b] below meth c H locs 207 2270 (lw_Z below #[Value.ref b] s) (F0 m 674 ls []) := by
  obtain ⟨hx, hb, hr, hml, hown, hts, hX, hbl, hlocks, hgv⟩ := C0
  have S : CallFix p m c code 4 s #[Value.ref b] lw_tbl RL := ⟨hx, hb, hml, hown, hts⟩
  have hbA : ¬ CA s.heap.size b := Nat.not_le.mpr hbl
  refine lv_aload_n hx hb dL_law_674 rfl (lv_at hl 1 rfl) ?_
  obtain ⟨r, u1, v1, e1, e2, hrel1⟩ := hop u v hrel
  refine la_call (sh := shC) (sh' := shR) (a := 3) (b := 0) (k := 0) (ci := 7) (T := TX7) (N := 8) (As := []) (rest := []) S hK hZC la_subC la_disC hPC hPR hS (c_X7_last l (D, cA, adL s.heap.size a0 a1) N (XD_C D cA s.heap.size a0 a1) u e1) ⟨wd_655, wd_652, wd_653, wd_654, wd_54⟩ hd_X7_last ⟨by decide, by decide⟩ rfl (kyO (by decide)) rfl rfl hl.1 rfl (Nat.le_of_ble_eq_true rfl) dL_law_675 ⟨by decide, by decide⟩ (fun H locs hPC hPR hS => ?_)
  refine lv_aload_n hx hb dL_law_678 rfl (lv_at hl 2 rfl) ?_
  refine la_call (sh := shR) (sh' := shC) (a := 9) (b := 0) (k := 0) (ci := 8) (T := TX8) (N := 31) (As := []) (rest := [.int r]) S hK hZR la_subR la_disR hPR hPC hS (c_X8_last l (D, cA, adL s.heap.size a0 a1) N (XD_R D cA s.heap.size a0 a1) v e2) ⟨wd_1158, wd_1155, wd_1156, wd_1157, wd_62⟩ hd_X8_last ⟨by decide, by decide⟩ rfl (kyM (by decide)) rfl rfl hl.1 rfl (Nat.le_of_ble_eq_true rfl) dL_law_679 ⟨by decide, by decide⟩ (fun H locs hPR hPC hS => ?_)
  refine lv_icmp_eq (tgt := 1211) hx hb dL_law_682 (by decide) (fun _ => ?_) (fun h => absurd rfl h)
  exact hnext u1 v1 _ _ _ hrel1 hPC hPR hS hl
set_option maxRecDepth 100000 in
set_option maxHeartbeats 4000000 in
theorem law_most (N : Nat) {Rel : Mm → Mm → Prop} (hop : Op_most N Rel) {p : Program} {l : Launch} {e : Env} {s : State} {m : MethodId} {below : List Frame} {meth : Method} {c : Code} {D : va_G} {cA : Nat → ClassId} {a0 a1 b L : Nat} {xs : Nat → Int32} (hL : L ≤ 3584) (C0 : lw_At p s m meth c b L xs) (hK : XK (D, cA, adL s.heap.size a0 a1) s) (hZC : XZ shC (D, cA, adL s.heap.size a0 a1) s s.heap) (hZR : XZ shR (D, cA, adL s.heap.size a0 a1) s s.heap) {i : Nat} (hi : i + 7 ≤ L) (hnext : ∀ (u v : Mm) (H : Heap) (locs : List Loc) (ls : Array Slot), Rel u v → XP shC (D, cA, adL s.heap.size a0 a1) u H → XP shR (D, cA, adL s.heap.size a0 a1) v H → va_S (CA s.heap.size) s.heap H locs → lv_has ls 4 [(0, .ref b), (1, .ref (adL s.heap.size a0 a1 (3, 0, 0))), (2, .ref (adL s.heap.size a0 a1 (9, 0, 0))), (3, .int (nI i))] → W p l e room_1 s m #[Value.ref b] below meth c H locs 207 2270 (lw_Z below #[Value.ref b] s) (F0 m 1211 ls [])) {u v : Mm} (hrel : Rel u v) {H : Heap} {locs : List Loc} {ls : Array Slot} (hPC : XP shC (D, cA, adL s.heap.size a0 a1) u H) (hPR : XP shR (D, cA, adL s.heap.size a0 a1) v H) (hS : va_S (CA s.heap.size) s.heap H locs) (hl : lv_has ls 4 [(0, .ref b), (1, .ref (adL s.heap.size a0 a1 (3, 0, 0))), (2, .ref (adL s.heap.size a0 a1 (9, 0, 0))), (3, .int (nI i))]) : W p l e room_1 s m #[Value.ref b] below meth c H locs 207 2270 (lw_Z below #[Value.ref b] s) (F0 m 687 ls []) := by
  obtain ⟨hx, hb, hr, hml, hown, hts, hX, hbl, hlocks, hgv⟩ := C0
  have S : CallFix p m c code 4 s #[Value.ref b] lw_tbl RL := ⟨hx, hb, hml, hown, hts⟩
  have hbA : ¬ CA s.heap.size b := Nat.not_le.mpr hbl
  refine lv_aload_n hx hb dL_law_687 rfl (lv_at hl 1 rfl) ?_
  refine lv_aload_n hx hb dL_law_688 rfl (lv_at hl 0 rfl) ?_
  refine lv_iload_n hx hb dL_law_689 rfl (lv_at hl 3 rfl) ?_
  refine lv_iconst (v := 1) hx hb dL_law_690 (by decide) ?_
  refine lv_iadd hx hb dL_law_691 ?_
  refine va_sld (A := CA s.heap.size) hx hb hX hbl hbA hS (la_in (k := 1) hi (by decide) hL rfl) dL_law_692 ?_
  obtain ⟨r, u1, v1, e1, e2, hrel1⟩ := hop u v hrel (xs ((nI i) + 1).toNatClampNeg)
  refine la_call (sh := shC) (sh' := shR) (a := 3) (b := 0) (k := 0) (ci := 7) (T := TX7) (N := 8) (As := [.int (xs ((nI i) + 1).toNatClampNeg)]) (rest := []) S hK hZC la_subC la_disC hPC hPR hS (c_X7_most l (D, cA, adL s.heap.size a0 a1) N (XD_C D cA s.heap.size a0 a1) (xs ((nI i) + 1).toNatClampNeg) u e1) ⟨wd_663, wd_660, wd_661, wd_662, wd_54⟩ hd_X7_most ⟨by decide, by decide⟩ rfl (kyO (by decide)) rfl rfl hl.1 rfl (Nat.le_of_ble_eq_true rfl) dL_law_693 ⟨by decide, by decide⟩ (fun H locs hPC hPR hS => ?_)
  refine lv_aload_n hx hb dL_law_696 rfl (lv_at hl 2 rfl) ?_
  refine lv_aload_n hx hb dL_law_697 rfl (lv_at hl 0 rfl) ?_
  refine lv_iload_n hx hb dL_law_698 rfl (lv_at hl 3 rfl) ?_
  refine lv_iconst (v := 1) hx hb dL_law_699 (by decide) ?_
  refine lv_iadd hx hb dL_law_700 ?_
  refine va_sld (A := CA s.heap.size) hx hb hX hbl hbA hS (la_in (k := 1) hi (by decide) hL rfl) dL_law_701 ?_
  refine la_call (sh := shR) (sh' := shC) (a := 9) (b := 0) (k := 0) (ci := 8) (T := TX8) (N := 31) (As := [.int (xs ((nI i) + 1).toNatClampNeg)]) (rest := [.int r]) S hK hZR la_subR la_disR hPR hPC hS (c_X8_most l (D, cA, adL s.heap.size a0 a1) N (XD_R D cA s.heap.size a0 a1) (xs ((nI i) + 1).toNatClampNeg) v e2) ⟨wd_1166, wd_1163, wd_1164, wd_1165, wd_62⟩ hd_X8_most ⟨by decide, by decide⟩ rfl (kyM (by decide)) rfl rfl hl.1 rfl (Nat.le_of_ble_eq_true rfl) dL_law_702 ⟨by decide, by decide⟩ (fun H locs hPR hPC hS => ?_)
  refine lv_icmp_eq (tgt := 1211) hx hb dL_law_705 (by decide) (fun _ => ?_) (fun h => absurd rfl h)
  exact hnext u1 v1 _ _ _ hrel1 hPC hPR hS hl
set_option maxRecDepth 100000 in
set_option maxHeartbeats 4000000 in
theorem law_best (N : Nat) {Rel : Mm → Mm → Prop} (hop : Op_best N Rel) {p : Program} {l : Launch} {e : Env} {s : State} {m : MethodId} {below : List Frame} {meth : Method} {c : Code} {D : va_G} {cA : Nat → ClassId} {a0 a1 b L : Nat} {xs : Nat → Int32} (hL : L ≤ 3584) (C0 : lw_At p s m meth c b L xs) (hK : XK (D, cA, adL s.heap.size a0 a1) s) (hZC : XZ shC (D, cA, adL s.heap.size a0 a1) s s.heap) (hZR : XZ shR (D, cA, adL s.heap.size a0 a1) s s.heap) {i : Nat} (hi : i + 7 ≤ L) (hnext : ∀ (u v : Mm) (H : Heap) (locs : List Loc) (ls : Array Slot), Rel u v → XP shC (D, cA, adL s.heap.size a0 a1) u H → XP shR (D, cA, adL s.heap.size a0 a1) v H → va_S (CA s.heap.size) s.heap H locs → lv_has ls 4 [(0, .ref b), (1, .ref (adL s.heap.size a0 a1 (3, 0, 0))), (2, .ref (adL s.heap.size a0 a1 (9, 0, 0))), (3, .int (nI i))] → W p l e room_1 s m #[Value.ref b] below meth c H locs 207 2270 (lw_Z below #[Value.ref b] s) (F0 m 1211 ls [])) {u v : Mm} (hrel : Rel u v) {H : Heap} {locs : List Loc} {ls : Array Slot} (hPC : XP shC (D, cA, adL s.heap.size a0 a1) u H) (hPR : XP shR (D, cA, adL s.heap.size a0 a1) v H) (hS : va_S (CA s.heap.size) s.heap H locs) (hl : lv_has ls 4 [(0, .ref b), (1, .ref (adL s.heap.size a0 a1 (3, 0, 0))), (2, .ref (adL s.heap.size a0 a1 (9, 0, 0))), (3, .int (nI i))]) : W p l e room_1 s m #[Value.ref b] below meth c H locs 207 2270 (lw_Z below #[Value.ref b] s) (F0 m 710 ls []) := by
  obtain ⟨hx, hb, hr, hml, hown, hts, hX, hbl, hlocks, hgv⟩ := C0
  have S : CallFix p m c code 4 s #[Value.ref b] lw_tbl RL := ⟨hx, hb, hml, hown, hts⟩
  have hbA : ¬ CA s.heap.size b := Nat.not_le.mpr hbl
  refine lv_aload_n hx hb dL_law_710 rfl (lv_at hl 1 rfl) ?_
  refine lv_aload_n hx hb dL_law_711 rfl (lv_at hl 0 rfl) ?_
  refine lv_iload_n hx hb dL_law_712 rfl (lv_at hl 3 rfl) ?_
  refine lv_iconst (v := 1) hx hb dL_law_713 (by decide) ?_
  refine lv_iadd hx hb dL_law_714 ?_
  refine va_sld (A := CA s.heap.size) hx hb hX hbl hbA hS (la_in (k := 1) hi (by decide) hL rfl) dL_law_715 ?_
  obtain ⟨r, u1, v1, e1, e2, hrel1⟩ := hop u v hrel (xs ((nI i) + 1).toNatClampNeg)
  refine la_call (sh := shC) (sh' := shR) (a := 3) (b := 0) (k := 0) (ci := 7) (T := TX7) (N := 8) (As := [.int (xs ((nI i) + 1).toNatClampNeg)]) (rest := []) S hK hZC la_subC la_disC hPC hPR hS (c_X7_best l (D, cA, adL s.heap.size a0 a1) N (XD_C D cA s.heap.size a0 a1) (xs ((nI i) + 1).toNatClampNeg) u e1) ⟨wd_676, wd_673, wd_674, wd_675, wd_54⟩ hd_X7_best ⟨by decide, by decide⟩ rfl (kyO (by decide)) rfl rfl hl.1 rfl (Nat.le_of_ble_eq_true rfl) dL_law_716 ⟨by decide, by decide⟩ (fun H locs hPC hPR hS => ?_)
  refine lv_aload_n hx hb dL_law_719 rfl (lv_at hl 2 rfl) ?_
  refine lv_aload_n hx hb dL_law_720 rfl (lv_at hl 0 rfl) ?_
  refine lv_iload_n hx hb dL_law_721 rfl (lv_at hl 3 rfl) ?_
  refine lv_iconst (v := 1) hx hb dL_law_722 (by decide) ?_
  refine lv_iadd hx hb dL_law_723 ?_
  refine va_sld (A := CA s.heap.size) hx hb hX hbl hbA hS (la_in (k := 1) hi (by decide) hL rfl) dL_law_724 ?_
  refine la_call (sh := shR) (sh' := shC) (a := 9) (b := 0) (k := 0) (ci := 8) (T := TX8) (N := 31) (As := [.int (xs ((nI i) + 1).toNatClampNeg)]) (rest := [.int r]) S hK hZR la_subR la_disR hPR hPC hS (c_X8_best l (D, cA, adL s.heap.size a0 a1) N (XD_R D cA s.heap.size a0 a1) (xs ((nI i) + 1).toNatClampNeg) v e2) ⟨wd_1174, wd_1171, wd_1172, wd_1173, wd_62⟩ hd_X8_best ⟨by decide, by decide⟩ rfl (kyM (by decide)) rfl rfl hl.1 rfl (Nat.le_of_ble_eq_true rfl) dL_law_725 ⟨by decide, by decide⟩ (fun H locs hPR hPC hS => ?_)
  refine lv_icmp_eq (tgt := 1211) hx hb dL_law_728 (by decide) (fun _ => ?_) (fun h => absurd rfl h)
  exact hnext u1 v1 _ _ _ hrel1 hPC hPR hS hl
set_option maxRecDepth 100000 in
set_option maxHeartbeats 4000000 in
theorem law_teaches (N : Nat) {Rel : Mm → Mm → Prop} (hop : Op_teaches N Rel) {p : Program} {l : Launch} {e : Env} {s : State} {m : MethodId} {below : List Frame} {meth : Method} {c : Code} {D : va_G} {cA : Nat → ClassId} {a0 a1 b L : Nat} {xs : Nat → Int32} (hL : L ≤ 3584) (C0 : lw_At p s m meth c b L xs) (hK : XK (D, cA, adL s.heap.size a0 a1) s) (hZC : XZ shC (D, cA, adL s.heap.size a0 a1) s s.heap) (hZR : XZ shR (D, cA, adL s.heap.size a0 a1) s s.heap) {i : Nat} (hi : i + 7 ≤ L) (hnext : ∀ (u v : Mm) (H : Heap) (locs : List Loc) (ls : Array Slot), Rel u v → XP shC (D, cA, adL s.heap.size a0 a1) u H → XP shR (D, cA, adL s.heap.size a0 a1) v H → va_S (CA s.heap.size) s.heap H locs → lv_has ls 4 [(0, .ref b), (1, .ref (adL s.heap.size a0 a1 (3, 0, 0))), (2, .ref (adL s.heap.size a0 a1 (9, 0, 0))), (3, .int (nI i))] → W p l e room_1 s m #[Value.ref b] below meth c H locs 207 2270 (lw_Z below #[Value.ref b] s) (F0 m 1211 ls [])) {u v : Mm} (hrel : Rel u v) {H : Heap} {locs : List Loc} {ls : Array Slot} (hPC : XP shC (D, cA, adL s.heap.size a0 a1) u H) (hPR : XP shR (D, cA, adL s.heap.size a0 a1) v H) (hS : va_S (CA s.heap.size) s.heap H locs) (hl : lv_has ls 4 [(0, .ref b), (1, .ref (adL s.heap.size a0 a1 (3, 0, 0))), (2, .ref (adL s.heap.size a0 a1 (9, 0, 0))), (3, .int (nI i))]) : W p l e room_1 s m #[Value.ref b] below meth c H locs 207 2270 (lw_Z below #[Value.ref b] s) (F0 m 733 ls []) := by
  obtain ⟨hx, hb, hr, hml, hown, hts, hX, hbl, hlocks, hgv⟩ := C0
  have S : CallFix p m c code 4 s #[Value.ref b] lw_tbl RL := ⟨hx, hb, hml, hown, hts⟩
  have hbA : ¬ CA s.heap.size b := Nat.not_le.mpr hbl
  refine lv_aload_n hx hb dL_law_733 rfl (lv_at hl 1 rfl) ?_
  refine lv_aload_n hx hb dL_law_734 rfl (lv_at hl 0 rfl) ?_
  refine lv_iload_n hx hb dL_law_735 rfl (lv_at hl 3 rfl) ?_
  refine lv_iconst (v := 1) hx hb dL_law_736 (by decide) ?_
  refine lv_iadd hx hb dL_law_737 ?_
  refine va_sld (A := CA s.heap.size) hx hb hX hbl hbA hS (la_in (k := 1) hi (by decide) hL rfl) dL_law_738 ?_
  obtain ⟨r, u1, v1, e1, e2, hrel1⟩ := hop u v hrel (xs ((nI i) + 1).toNatClampNeg)
  refine la_call (sh := shC) (sh' := shR) (a := 3) (b := 0) (k := 0) (ci := 7) (T := TX7) (N := 8) (As := [.int (xs ((nI i) + 1).toNatClampNeg)]) (rest := []) S hK hZC la_subC la_disC hPC hPR hS (c_X7_teaches l (D, cA, adL s.heap.size a0 a1) N (XD_C D cA s.heap.size a0 a1) (xs ((nI i) + 1).toNatClampNeg) u e1) ⟨wd_730, wd_727, wd_728, wd_729, wd_54⟩ hd_X7_teaches ⟨by decide, by decide⟩ rfl (kyO (by decide)) rfl rfl hl.1 rfl (Nat.le_of_ble_eq_true rfl) dL_law_739 ⟨by decide, by decide⟩ (fun H locs hPC hPR hS => ?_)
  refine lv_aload_n hx hb dL_law_742 rfl (lv_at hl 2 rfl) ?_
  refine lv_aload_n hx hb dL_law_743 rfl (lv_at hl 0 rfl) ?_
  refine lv_iload_n hx hb dL_law_744 rfl (lv_at hl 3 rfl) ?_
  refine lv_iconst (v := 1) hx hb dL_law_745 (by decide) ?_
  refine lv_iadd hx hb dL_law_746 ?_
  refine va_sld (A := CA s.heap.size) hx hb hX hbl hbA hS (la_in (k := 1) hi (by decide) hL rfl) dL_law_747 ?_
  refine la_call (sh := shR) (sh' := shC) (a := 9) (b := 0) (k := 0) (ci := 8) (T := TX8) (N := 31) (As := [.int (xs ((nI i) + 1).toNatClampNeg)]) (rest := [.int r]) S hK hZR la_subR la_disR hPR hPC hS (c_X8_teaches l (D, cA, adL s.heap.size a0 a1) N (XD_R D cA s.heap.size a0 a1) (xs ((nI i) + 1).toNatClampNeg) v e2) ⟨wd_1194, wd_1191, wd_1192, wd_1193, wd_62⟩ hd_X8_teaches ⟨by decide, by decide⟩ rfl (kyM (by decide)) rfl rfl hl.1 rfl (Nat.le_of_ble_eq_true rfl) dL_law_748 ⟨by decide, by decide⟩ (fun H locs hPR hPC hS => ?_)
  refine lv_icmp_eq (tgt := 1211) hx hb dL_law_751 (by decide) (fun _ => ?_) (fun h => absurd rfl h)
  exact hnext u1 v1 _ _ _ hrel1 hPC hPR hS hl
set_option maxRecDepth 100000 in
set_option maxHeartbeats 4000000 in
theorem law_spare (N : Nat) {Rel : Mm → Mm → Prop} (hop : Op_spare N Rel) {p : Program} {l : Launch} {e : Env} {s : State} {m : MethodId} {below : List Frame} {meth : Method} {c : Code} {D : va_G} {cA : Nat → ClassId} {a0 a1 b L : Nat} {xs : Nat → Int32} (hL : L ≤ 3584) (C0 : lw_At p s m meth c b L xs) (hK : XK (D, cA, adL s.heap.size a0 a1) s) (hZC : XZ shC (D, cA, adL s.heap.size a0 a1) s s.heap) (hZR : XZ shR (D, cA, adL s.heap.size a0 a1) s s.heap) {i : Nat} (hi : i + 7 ≤ L) (hnext : ∀ (u v : Mm) (H : Heap) (locs : List Loc) (ls : Array Slot), Rel u v → XP shC (D, cA, adL s.heap.size a0 a1) u H → XP shR (D, cA, adL s.heap.size a0 a1) v H → va_S (CA s.heap.size) s.heap H locs → lv_has ls 4 [(0, .ref b), (1, .ref (adL s.heap.size a0 a1 (3, 0, 0))), (2, .ref (adL s.heap.size a0 a1 (9, 0, 0))), (3, .int (nI i))] → W p l e room_1 s m #[Value.ref b] below meth c H locs 207 2270 (lw_Z below #[Value.ref b] s) (F0 m 1211 ls [])) {u v : Mm} (hrel : Rel u v) {H : Heap} {locs : List Loc} {ls : Array Slot} (hPC : XP shC (D, cA, adL s.heap.size a0 a1) u H) (hPR : XP shR (D, cA, adL s.heap.size a0 a1) v H) (hS : va_S (CA s.heap.size) s.heap H locs) (hl : lv_has ls 4 [(0, .ref b), (1, .ref (adL s.heap.size a0 a1 (3, 0, 0))), (2, .ref (adL s.heap.size a0 a1 (9, 0, 0))), (3, .int (nI i))]) : W p l e room_1 s m #[Value.ref b] below meth c H locs 207 2270 (lw_Z below #[Value.ref b] s) (F0 m 756 ls []) := by
  obtain ⟨hx, hb, hr, hml, hown, hts, hX, hbl, hlocks, hgv⟩ := C0
  have S : CallFix p m c code 4 s #[Value.ref b] lw_tbl RL := ⟨hx, hb, hml, hown, hts⟩
  have hbA : ¬ CA s.heap.size b := Nat.not_le.mpr hbl
  refine lv_aload_n hx hb dL_law_756 rfl (lv_at hl 1 rfl) ?_
  refine lv_aload_n hx hb dL_law_757 rfl (lv_at hl 0 rfl) ?_
  refine lv_iload_n hx hb dL_law_758 rfl (lv_at hl 3 rfl) ?_
  refine lv_iconst (v := 1) hx hb dL_law_759 (by decide) ?_
  refine lv_iadd hx hb dL_law_760 ?_
  refine va_sld (A := CA s.heap.size) hx hb hX hbl hbA hS (la_in (k := 1) hi (by decide) hL rfl) dL_law_761 ?_
  obtain ⟨r, u1, v1, e1, e2, hrel1⟩ := hop u v hrel (xs ((nI i) + 1).toNatClampNeg)
  refine la_call (sh := shC) (sh' := shR) (a := 3) (b := 0) (k := 0) (ci := 7) (T := TX7) (N := 8) (As := [.int (xs ((nI i) + 1).toNatClampNeg)]) (rest := []) S hK hZC la_subC la_disC hPC hPR hS (c_X7_spare l (D, cA, adL s.heap.size a0 a1) N (XD_C D cA s.heap.size a0 a1) (xs ((nI i) + 1).toNatClampNeg) u e1) ⟨wd_749, wd_746, wd_747, wd_748, wd_54⟩ hd_X7_spare ⟨by decide, by decide⟩ rfl (kyO (by decide)) rfl rfl hl.1 rfl (Nat.le_of_ble_eq_true rfl) dL_law_762 ⟨by decide, by decide⟩ (fun H locs hPC hPR hS => ?_)
  refine lv_aload_n hx hb dL_law_765 rfl (lv_at hl 2 rfl) ?_
  refine lv_aload_n hx hb dL_law_766 rfl (lv_at hl 0 rfl) ?_
  refine lv_iload_n hx hb dL_law_767 rfl (lv_at hl 3 rfl) ?_
  refine lv_iconst (v := 1) hx hb dL_law_768 (by decide) ?_
  refine lv_iadd hx hb dL_law_769 ?_
  refine va_sld (A := CA s.heap.size) hx hb hX hbl hbA hS (la_in (k := 1) hi (by decide) hL rfl) dL_law_770 ?_
  refine la_call (sh := shR) (sh' := shC) (a := 9) (b := 0) (k := 0) (ci := 8) (T := TX8) (N := 31) (As := [.int (xs ((nI i) + 1).toNatClampNeg)]) (rest := [.int r]) S hK hZR la_subR la_disR hPR hPC hS (c_X8_spare l (D, cA, adL s.heap.size a0 a1) N (XD_R D cA s.heap.size a0 a1) (xs ((nI i) + 1).toNatClampNeg) v e2) ⟨wd_1198, wd_1195, wd_1196, wd_1197, wd_62⟩ hd_X8_spare ⟨by decide, by decide⟩ rfl (kyM (by decide)) rfl rfl hl.1 rfl (Nat.le_of_ble_eq_true rfl) dL_law_771 ⟨by decide, by decide⟩ (fun H locs hPR hPC hS => ?_)
  refine lv_icmp_eq (tgt := 1211) hx hb dL_law_774 (by decide) (fun _ => ?_) (fun h => absurd rfl h)
  exact hnext u1 v1 _ _ _ hrel1 hPC hPR hS hl
set_option maxRecDepth 100000 in
set_option maxHeartbeats 4000000 in
theorem law_before (N : Nat) {Rel : Mm → Mm → Prop} (hop : Op_before N Rel) {p : Program} {l : Launch} {e : Env} {s : State} {m : MethodId} {below : List Frame} {meth : Method} {c : Code} {D : va_G} {cA : Nat → ClassId} {a0 a1 b L : Nat} {xs : Nat → Int32} (hL : L ≤ 3584) (C0 : lw_At p s m meth c b L xs) (hK : XK (D, cA, adL s.heap.size a0 a1) s) (hZC : XZ shC (D, cA, adL s.heap.size a0 a1) s s.heap) (hZR : XZ shR (D, cA, adL s.heap.size a0 a1) s s.heap) {i : Nat} (hi : i + 7 ≤ L) (hnext : ∀ (u v : Mm) (H : Heap) (locs : List Loc) (ls : Array Slot), Rel u v → XP shC (D, cA, adL s.heap.size a0 a1) u H → XP shR (D, cA, adL s.heap.size a0 a1) v H → va_S (CA s.heap.size) s.heap H locs → lv_has ls 4 [(0, .ref b), (1, .ref (adL s.heap.size a0 a1 (3, 0, 0))), (2, .ref (adL s.heap.size a0 a1 (9, 0, 0))), (3, .int (nI i))] → W p l e room_1 s m #[Value.ref b] below meth c H locs 207 2270 (lw_Z below #[Value.ref b] s) (F0 m 1211 ls [])) {u v : Mm} (hrel : Rel u v) {H : Heap} {locs : List Loc} {ls : Array Slot} (hPC : XP shC (D, cA, adL s.heap.size a0 a1) u H) (hPR : XP shR (D, cA, adL s.heap.size a0 a1) v H) (hS : va_S (CA s.heap.size) s.heap H locs) (hl : lv_has ls 4 [(0, .ref b), (1, .ref (adL s.heap.size a0 a1 (3, 0, 0))), (2, .ref (adL s.heap.size a0 a1 (9, 0, 0))), (3, .int (nI i))]) : W p l e room_1 s m #[Value.ref b] below meth c H locs 207 2270 (lw_Z below #[Value.ref b] s) (F0 m 779 ls []) := by
  obtain ⟨hx, hb, hr, hml, hown, hts, hX, hbl, hlocks, hgv⟩ := C0
  have S : CallFix p m c code 4 s #[Value.ref b] lw_tbl RL := ⟨hx, hb, hml, hown, hts⟩
  have hbA : ¬ CA s.heap.size b := Nat.not_le.mpr hbl
  refine lv_aload_n hx hb dL_law_779 rfl (lv_at hl 1 rfl) ?_
  refine lv_aload_n hx hb dL_law_780 rfl (lv_at hl 0 rfl) ?_
  refine lv_iload_n hx hb dL_law_781 rfl (lv_at hl 3 rfl) ?_
  refine lv_iconst (v := 1) hx hb dL_law_782 (by decide) ?_
  refine lv_iadd hx hb dL_law_783 ?_
  refine va_sld (A := CA s.heap.size) hx hb hX hbl hbA hS (la_in (k := 1) hi (by decide) hL rfl) dL_law_784 ?_
  obtain ⟨r, u1, v1, e1, e2, hrel1⟩ := hop u v hrel (xs ((nI i) + 1).toNatClampNeg)
  refine la_call (sh := shC) (sh' := shR) (a := 3) (b := 0) (k := 0) (ci := 7) (T := TX7) (N := 8) (As := [.int (xs ((nI i) + 1).toNatClampNeg)]) (rest := []) S hK hZC la_subC la_disC hPC hPR hS (c_X7_before l (D, cA, adL s.heap.size a0 a1) N (XD_C D cA s.heap.size a0 a1) (xs ((nI i) + 1).toNatClampNeg) u e1) ⟨wd_758, wd_755, wd_756, wd_757, wd_54⟩ hd_X7_before ⟨by decide, by decide⟩ rfl (kyO (by decide)) rfl rfl hl.1 rfl (Nat.le_of_ble_eq_true rfl) dL_law_785 ⟨by decide, by decide⟩ (fun H locs hPC hPR hS => ?_)
  refine lv_aload_n hx hb dL_law_788 rfl (lv_at hl 2 rfl) ?_
  refine lv_aload_n hx hb dL_law_789 rfl (lv_at hl 0 rfl) ?_
  refine lv_iload_n hx hb dL_law_790 rfl (lv_at hl 3 rfl) ?_
  refine lv_iconst (v := 1) hx hb dL_law_791 (by decide) ?_
  refine lv_iadd hx hb dL_law_792 ?_
  refine va_sld (A := CA s.heap.size) hx hb hX hbl hbA hS (la_in (k := 1) hi (by decide) hL rfl) dL_law_793 ?_
  refine la_call (sh := shR) (sh' := shC) (a := 9) (b := 0) (k := 0) (ci := 8) (T := TX8) (N := 31) (As := [.int (xs ((nI i) + 1).toNatClampNeg)]) (rest := [.int r]) S hK hZR la_subR la_disR hPR hPC hS (c_X8_before l (D, cA, adL s.heap.size a0 a1) N (XD_R D cA s.heap.size a0 a1) (xs ((nI i) + 1).toNatClampNeg) v e2) ⟨wd_1202, wd_1199, wd_1200, wd_1201, wd_62⟩ hd_X8_before ⟨by decide, by decide⟩ rfl (kyM (by decide)) rfl rfl hl.1 rfl (Nat.le_of_ble_eq_true rfl) dL_law_794 ⟨by decide, by decide⟩ (fun H locs hPR hPC hS => ?_)
  refine lv_icmp_eq (tgt := 1211) hx hb dL_law_797 (by decide) (fun _ => ?_) (fun h => absurd rfl h)
  exact hnext u1 v1 _ _ _ hrel1 hPC hPR hS hl
set_option maxRecDepth 100000 in
set_option maxHeartbeats 4000000 in
theorem law_cramp (N : Nat) {Rel : Mm → Mm → Prop} (hop : Op_cramp N Rel) {p : Program} {l : Launch} {e : Env} {s : State} {m : MethodId} {below : List Frame} {meth : Method} {c : Code} {D : va_G} {cA : Nat → ClassId} {a0 a1 b L : Nat} {xs : Nat → Int32} (hL : L ≤ 3584) (C0 : lw_At p s m meth c b L xs) (hK : XK (D, cA, adL s.heap.size a0 a1) s) (hZC : XZ shC (D, cA, adL s.heap.size a0 a1) s s.heap) (hZR : XZ shR (D, cA, adL s.heap.size a0 a1) s s.heap) {i : Nat} (hi : i + 7 ≤ L) (hnext : ∀ (u v : Mm) (H : Heap) (locs : List Loc) (ls : Array Slot), Rel u v → XP shC (D, cA, adL s.heap.size a0 a1) u H → XP shR (D, cA, adL s.heap.size a0 a1) v H → va_S (CA s.heap.size) s.heap H locs → lv_has ls 4 [(0, .ref b), (1, .ref (adL s.heap.size a0 a1 (3, 0, 0))), (2, .ref (adL s.heap.size a0 a1 (9, 0, 0))), (3, .int (nI i))] → W p l e room_1 s m #[Value.ref b] below meth c H locs 207 2270 (lw_Z below #[Value.ref b] s) (F0 m 1211 ls [])) {u v : Mm} (hrel : Rel u v) {H : Heap} {locs : List Loc} {ls : Array Slot} (hPC : XP shC (D, cA, adL s.heap.size a0 a1) u H) (hPR : XP shR (D, cA, adL s.heap.size a0 a1) v H) (hS : va_S (CA s.heap.size) s.heap H locs) (hl : lv_has ls 4 [(0, .ref b), (1, .ref (adL s.heap.size a0 a1 (3, 0, 0))), (2, .ref (adL s.heap.size a0 a1 (9, 0, 0))), (3, .int (nI i))]) : W p l e room_1 s m #[Value.ref b] below meth c H locs 207 2270 (lw_Z below #[Value.ref b] s) (F0 m 802 ls []) := by
  obtain ⟨hx, hb, hr, hml, hown, hts, hX, hbl, hlocks, hgv⟩ := C0
  have S : CallFix p m c code 4 s #[Value.ref b] lw_tbl RL := ⟨hx, hb, hml, hown, hts⟩
  have hbA : ¬ CA s.heap.size b := Nat.not_le.mpr hbl
  refine lv_aload_n hx hb dL_law_802 rfl (lv_at hl 1 rfl) ?_
  refine lv_aload_n hx hb dL_law_803 rfl (lv_at hl 0 rfl) ?_
  refine lv_iload_n hx hb dL_law_804 rfl (lv_at hl 3 rfl) ?_
  refine lv_iconst (v := 1) hx hb dL_law_805 (by decide) ?_
  refine lv_iadd hx hb dL_law_806 ?_
  refine va_sld (A := CA s.heap.size) hx hb hX hbl hbA hS (la_in (k := 1) hi (by decide) hL rfl) dL_law_807 ?_
  refine lv_aload_n hx hb dL_law_808 rfl (lv_at hl 0 rfl) ?_
  refine lv_iload_n hx hb dL_law_809 rfl (lv_at hl 3 rfl) ?_
  refine lv_iconst (v := 2) hx hb dL_law_810 (by decide) ?_
  refine lv_iadd hx hb dL_law_811 ?_
  refine va_sld (A := CA s.heap.size) hx hb hX hbl hbA hS (la_in (k := 2) hi (by decide) hL rfl) dL_law_812 ?_
  refine lv_aload_n hx hb dL_law_813 rfl (lv_at hl 0 rfl) ?_
  refine lv_iload_n hx hb dL_law_814 rfl (lv_at hl 3 rfl) ?_
  refine lv_iconst (v := 3) hx hb dL_law_815 (by decide) ?_
  refine lv_iadd hx hb dL_law_816 ?_
  refine va_sld (A := CA s.heap.size) hx hb hX hbl hbA hS (la_in (k := 3) hi (by decide) hL rfl) dL_law_817 ?_
  obtain ⟨r, u1, v1, e1, e2, hrel1⟩ := hop u v hrel (xs ((nI i) + 1).toNatClampNeg) (xs ((nI i) + 2).toNatClampNeg) (xs ((nI i) + 3).toNatClampNeg)
  refine la_call (sh := shC) (sh' := shR) (a := 3) (b := 0) (k := 0) (ci := 7) (T := TX7) (N := 8) (As := [.int (xs ((nI i) + 1).toNatClampNeg), .int (xs ((nI i) + 2).toNatClampNeg), .int (xs ((nI i) + 3).toNatClampNeg)]) (rest := []) S hK hZC la_subC la_disC hPC hPR hS (c_X7_cramp l (D, cA, adL s.heap.size a0 a1) N (XD_C D cA s.heap.size a0 a1) (xs ((nI i) + 1).toNatClampNeg) (xs ((nI i) + 2).toNatClampNeg) (xs ((nI i) + 3).toNatClampNeg) u e1) ⟨wd_766, wd_763, wd_764, wd_765, wd_54⟩ hd_X7_cramp ⟨by decide, by decide⟩ rfl (kyO (by decide)) rfl rfl hl.1 rfl (Nat.le_of_ble_eq_true rfl) dL_law_818 ⟨by decide, by decide⟩ (fun H locs hPC hPR hS => ?_)
  refine lv_aload_n hx hb dL_law_821 rfl (lv_at hl 2 rfl) ?_
  refine lv_aload_n hx hb dL_law_822 rfl (lv_at hl 0 rfl) ?_
  refine lv_iload_n hx hb dL_law_823 rfl (lv_at hl 3 rfl) ?_
  refine lv_iconst (v := 1) hx hb dL_law_824 (by decide) ?_
  refine lv_iadd hx hb dL_law_825 ?_
  refine va_sld (A := CA s.heap.size) hx hb hX hbl hbA hS (la_in (k := 1) hi (by decide) hL rfl) dL_law_826 ?_
  refine lv_aload_n hx hb dL_law_827 rfl (lv_at hl 0 rfl) ?_
  refine lv_iload_n hx hb dL_law_828 rfl (lv_at hl 3 rfl) ?_
  refine lv_iconst (v := 2) hx hb dL_law_829 (by decide) ?_
  refine lv_iadd hx hb dL_law_830 ?_
  refine va_sld (A := CA s.heap.size) hx hb hX hbl hbA hS (la_in (k := 2) hi (by decide) hL rfl) dL_law_831 ?_
  refine lv_aload_n hx hb dL_law_832 rfl (lv_at hl 0 rfl) ?_
  refine lv_iload_n hx hb dL_law_833 rfl (lv_at hl 3 rfl) ?_
  refine lv_iconst (v := 3) hx hb dL_law_834 (by decide) ?_
  refine lv_iadd hx hb dL_law_835 ?_
  refine va_sld (A := CA s.heap.size) hx hb hX hbl hbA hS (la_in (k := 3) hi (by decide) hL rfl) dL_law_836 ?_
  refine la_call (sh := shR) (sh' := shC) (a := 9) (b := 0) (k := 0) (ci := 8) (T := TX8) (N := 31) (As := [.int (xs ((nI i) + 1).toNatClampNeg), .int (xs ((nI i) + 2).toNatClampNeg), .int (xs ((nI i) + 3).toNatClampNeg)]) (rest := [.int r]) S hK hZR la_subR la_disR hPR hPC hS (c_X8_cramp l (D, cA, adL s.heap.size a0 a1) N (XD_R D cA s.heap.size a0 a1) (xs ((nI i) + 1).toNatClampNeg) (xs ((nI i) + 2).toNatClampNeg) (xs ((nI i) + 3).toNatClampNeg) v e2) ⟨wd_1206, wd_1203, wd_1204, wd_1205, wd_62⟩ hd_X8_cramp ⟨by decide, by decide⟩ rfl (kyM (by decide)) rfl rfl hl.1 rfl (Nat.le_of_ble_eq_true rfl) dL_law_837 ⟨by decide, by decide⟩ (fun H locs hPR hPC hS => ?_)
  refine lv_icmp_eq (tgt := 1211) hx hb dL_law_840 (by decide) (fun _ => ?_) (fun h => absurd rfl h)
  exact hnext u1 v1 _ _ _ hrel1 hPC hPR hS hl
set_option maxRecDepth 100000 in
set_option maxHeartbeats 4000000 in
theorem law_image (N : Nat) {Rel : Mm → Mm → Prop} (hop : Op_image N Rel) {p : Program} {l : Launch} {e : Env} {s : State} {m : MethodId} {below : List Frame} {meth : Method} {c : Code} {D : va_G} {cA : Nat → ClassId} {a0 a1 b L : Nat} {xs : Nat → Int32} (hL : L ≤ 3584) (C0 : lw_At p s m meth c b L xs) (hK : XK (D, cA, adL s.heap.size a0 a1) s) (hZC : XZ shC (D, cA, adL s.heap.size a0 a1) s s.heap) (hZR : XZ shR (D, cA, adL s.heap.size a0 a1) s s.heap) {i : Nat} (hi : i + 7 ≤ L) (hnext : ∀ (u v : Mm) (H : Heap) (locs : List Loc) (ls : Array Slot), Rel u v → XP shC (D, cA, adL s.heap.size a0 a1) u H → XP shR (D, cA, adL s.heap.size a0 a1) v H → va_S (CA s.heap.size) s.heap H locs → lv_has ls 4 [(0, .ref b), (1, .ref (adL s.heap.size a0 a1 (3, 0, 0))), (2, .ref (adL s.heap.size a0 a1 (9, 0, 0))), (3, .int (nI i))] → W p l e room_1 s m #[Value.ref b] below meth c H locs 207 2270 (lw_Z below #[Value.ref b] s) (F0 m 1211 ls [])) {u v : Mm} (hrel : Rel u v) {H : Heap} {locs : List Loc} {ls : Array Slot} (hPC : XP shC (D, cA, adL s.heap.size a0 a1) u H) (hPR : XP shR (D, cA, adL s.heap.size a0 a1) v H) (hS : va_S (CA s.heap.size) s.heap H locs) (hl : lv_has ls 4 [(0, .ref b), (1, .ref (adL s.heap.size a0 a1 (3, 0, 0))), (2, .ref (adL s.heap.size a0 a1 (9, 0, 0))), (3, .int (nI i))]) : W p l e room_1 s m #[Value.ref b] below meth c H locs 207 2270 (lw_Z below #[Value.ref b] s) (F0 m 845 ls []) := by
  obtain ⟨hx, hb, hr, hml, hown, hts, hX, hbl, hlocks, hgv⟩ := C0
  have S : CallFix p m c code 4 s #[Value.ref b] lw_tbl RL := ⟨hx, hb, hml, hown, hts⟩
  have hbA : ¬ CA s.heap.size b := Nat.not_le.mpr hbl
  refine lv_aload_n hx hb dL_law_845 rfl (lv_at hl 1 rfl) ?_
  obtain ⟨r, u1, v1, e1, e2, hrel1⟩ := hop u v hrel
  refine la_call (sh := shC) (sh' := shR) (a := 3) (b := 0) (k := 0) (ci := 7) (T := TX7) (N := 8) (As := []) (rest := []) S hK hZC la_subC la_disC hPC hPR hS (c_X7_image l (D, cA, adL s.heap.size a0 a1) N (XD_C D cA s.heap.size a0 a1) u e1) ⟨wd_784, wd_781, wd_782, wd_783, wd_54⟩ hd_X7_image ⟨by decide, by decide⟩ rfl (kyO (by decide)) rfl rfl hl.1 rfl (Nat.le_of_ble_eq_true rfl) dL_law_846 ⟨by decide, by decide⟩ (fun H locs hPC hPR hS => ?_)
  refine lv_aload_n hx hb dL_law_849 rfl (lv_at hl 2 rfl) ?_
  refine la_call (sh := shR) (sh' := shC) (a := 9) (b := 0) (k := 0) (ci := 8) (T := TX8) (N := 31) (As := []) (rest := [.int r]) S hK hZR la_subR la_disR hPR hPC hS (c_X8_image l (D, cA, adL s.heap.size a0 a1) N (XD_R D cA s.heap.size a0 a1) v e2) ⟨wd_1212, wd_1209, wd_1210, wd_1211, wd_62⟩ hd_X8_image ⟨by decide, by decide⟩ rfl (kyM (by decide)) rfl rfl hl.1 rfl (Nat.le_of_ble_eq_true rfl) dL_law_850 ⟨by decide, by decide⟩ (fun H locs hPR hPC hS => ?_)
  refine lv_icmp_eq (tgt := 1211) hx hb dL_law_853 (by decide) (fun _ => ?_) (fun h => absurd rfl h)
  exact hnext u1 v1 _ _ _ hrel1 hPC hPR hS hl
set_option maxRecDepth 100000 in
set_option maxHeartbeats 4000000 in
theorem law_restore (N : Nat) {Rel : Mm → Mm → Prop} (hop : Op_restore N Rel) {p : Program} {l : Launch} {e : Env} {s : State} {m : MethodId} {below : List Frame} {meth : Method} {c : Code} {D : va_G} {cA : Nat → ClassId} {a0 a1 b L : Nat} {xs : Nat → Int32} (hL : L ≤ 3584) (C0 : lw_At p s m meth c b L xs) (hK : XK (D, cA, adL s.heap.size a0 a1) s) (hZC : XZ shC (D, cA, adL s.heap.size a0 a1) s s.heap) (hZR : XZ shR (D, cA, adL s.heap.size a0 a1) s s.heap) {i : Nat} (hi : i + 7 ≤ L) (hnext : ∀ (u v : Mm) (H : Heap) (locs : List Loc) (ls : Array Slot), Rel u v → XP shC (D, cA, adL s.heap.size a0 a1) u H → XP shR (D, cA, adL s.heap.size a0 a1) v H → va_S (CA s.heap.size) s.heap H locs → lv_has ls 4 [(0, .ref b), (1, .ref (adL s.heap.size a0 a1 (3, 0, 0))), (2, .ref (adL s.heap.size a0 a1 (9, 0, 0))), (3, .int (nI i))] → W p l e room_1 s m #[Value.ref b] below meth c H locs 207 2270 (lw_Z below #[Value.ref b] s) (F0 m 1211 ls [])) {u v : Mm} (hrel : Rel u v) {H : Heap} {locs : List Loc} {ls : Array Slot} (hPC : XP shC (D, cA, adL s.heap.size a0 a1) u H) (hPR : XP shR (D, cA, adL s.heap.size a0 a1) v H) (hS : va_S (CA s.heap.size) s.heap H locs) (hl : lv_has ls 4 [(0, .ref b), (1, .ref (adL s.heap.size a0 a1 (3, 0, 0))), (2, .ref (adL s.heap.size a0 a1 (9, 0, 0))), (3, .int (nI i))]) : W p l e room_1 s m #[Value.ref b] below meth c H locs 207 2270 (lw_Z below #[Value.ref b] s) (F0 m 858 ls []) := by
  obtain ⟨hx, hb, hr, hml, hown, hts, hX, hbl, hlocks, hgv⟩ := C0
  have S : CallFix p m c code 4 s #[Value.ref b] lw_tbl RL := ⟨hx, hb, hml, hown, hts⟩
  have hbA : ¬ CA s.heap.size b := Nat.not_le.mpr hbl
  refine lv_aload_n hx hb dL_law_858 rfl (lv_at hl 1 rfl) ?_
  obtain ⟨r, u1, v1, e1, e2, hrel1⟩ := hop u v hrel
  refine la_call (sh := shC) (sh' := shR) (a := 3) (b := 0) (k := 0) (ci := 7) (T := TX7) (N := 8) (As := []) (rest := []) S hK hZC la_subC la_disC hPC hPR hS (c_X7_restore l (D, cA, adL s.heap.size a0 a1) N (XD_C D cA s.heap.size a0 a1) u e1) ⟨wd_792, wd_789, wd_790, wd_791, wd_54⟩ hd_X7_restore ⟨by decide, by decide⟩ rfl (kyO (by decide)) rfl rfl hl.1 rfl (Nat.le_of_ble_eq_true rfl) dL_law_859 ⟨by decide, by decide⟩ (fun H locs hPC hPR hS => ?_)
  refine lv_aload_n hx hb dL_law_862 rfl (lv_at hl 2 rfl) ?_
  refine la_call (sh := shR) (sh' := shC) (a := 9) (b := 0) (k := 0) (ci := 8) (T := TX8) (N := 31) (As := []) (rest := [.int r]) S hK hZR la_subR la_disR hPR hPC hS (c_X8_restore l (D, cA, adL s.heap.size a0 a1) N (XD_R D cA s.heap.size a0 a1) v e2) ⟨wd_1216, wd_1213, wd_1214, wd_1215, wd_62⟩ hd_X8_restore ⟨by decide, by decide⟩ rfl (kyM (by decide)) rfl rfl hl.1 rfl (Nat.le_of_ble_eq_true rfl) dL_law_863 ⟨by decide, by decide⟩ (fun H locs hPR hPC hS => ?_)
  refine lv_icmp_eq (tgt := 1211) hx hb dL_law_866 (by decide) (fun _ => ?_) (fun h => absurd rfl h)
  exact hnext u1 v1 _ _ _ hrel1 hPC hPR hS hl
set_option maxRecDepth 100000 in
set_option maxHeartbeats 4000000 in
theorem law_seen (N : Nat) {Rel : Mm → Mm → Prop} (hop : Op_seen N Rel) {p : Program} {l : Launch} {e : Env} {s : State} {m : MethodId} {below : List Frame} {meth : Method} {c : Code} {D : va_G} {cA : Nat → ClassId} {a0 a1 b L : Nat} {xs : Nat → Int32} (hL : L ≤ 3584) (C0 : lw_At p s m meth c b L xs) (hK : XK (D, cA, adL s.heap.size a0 a1) s) (hZC : XZ shC (D, cA, adL s.heap.size a0 a1) s s.heap) (hZR : XZ shR (D, cA, adL s.heap.size a0 a1) s s.heap) {i : Nat} (hi : i + 7 ≤ L) (hnext : ∀ (u v : Mm) (H : Heap) (locs : List Loc) (ls : Array Slot), Rel u v → XP shC (D, cA, adL s.heap.size a0 a1) u H → XP shR (D, cA, adL s.heap.size a0 a1) v H → va_S (CA s.heap.size) s.heap H locs → lv_has ls 4 [(0, .ref b), (1, .ref (adL s.heap.size a0 a1 (3, 0, 0))), (2, .ref (adL s.heap.size a0 a1 (9, 0, 0))), (3, .int (nI i))] → W p l e room_1 s m #[Value.ref b] below meth c H locs 207 2270 (lw_Z below #[Value.ref b] s) (F0 m 1211 ls [])) {u v : Mm} (hrel : Rel u v) {H : Heap} {locs : List Loc} {ls : Array Slot} (hPC : XP shC (D, cA, adL s.heap.size a0 a1) u H) (hPR : XP shR (D, cA, adL s.heap.size a0 a1) v H) (hS : va_S (CA s.heap.size) s.heap H locs) (hl : lv_has ls 4 [(0, .ref b), (1, .ref (adL s.heap.size a0 a1 (3, 0, 0))), (2, .ref (adL s.heap.size a0 a1 (9, 0, 0))), (3, .int (nI i))]) : W p l e room_1 s m #[Value.ref b] below meth c H locs 207 2270 (lw_Z below #[Value.ref b] s) (F0 m 871 ls []) := by
  obtain ⟨hx, hb, hr, hml, hown, hts, hX, hbl, hlocks, hgv⟩ := C0
  have S : CallFix p m c code 4 s #[Value.ref b] lw_tbl RL := ⟨hx, hb, hml, hown, hts⟩
  have hbA : ¬ CA s.heap.size b := Nat.not_le.mpr hbl
  refine lv_aload_n hx hb dL_law_871 rfl (lv_at hl 1 rfl) ?_
  refine lv_aload_n hx hb dL_law_872 rfl (lv_at hl 0 rfl) ?_
  refine lv_iload_n hx hb dL_law_873 rfl (lv_at hl 3 rfl) ?_
  refine lv_iconst (v := 1) hx hb dL_law_874 (by decide) ?_
  refine lv_iadd hx hb dL_law_875 ?_
  refine va_sld (A := CA s.heap.size) hx hb hX hbl hbA hS (la_in (k := 1) hi (by decide) hL rfl) dL_law_876 ?_
  refine lv_aload_n hx hb dL_law_877 rfl (lv_at hl 0 rfl) ?_
  refine lv_iload_n hx hb dL_law_878 rfl (lv_at hl 3 rfl) ?_
  refine lv_iconst (v := 2) hx hb dL_law_879 (by decide) ?_
  refine lv_iadd hx hb dL_law_880 ?_
  refine va_sld (A := CA s.heap.size) hx hb hX hbl hbA hS (la_in (k := 2) hi (by decide) hL rfl) dL_law_881 ?_
  refine lv_aload_n hx hb dL_law_882 rfl (lv_at hl 0 rfl) ?_
  refine lv_iload_n hx hb dL_law_883 rfl (lv_at hl 3 rfl) ?_
  refine lv_iconst (v := 3) hx hb dL_law_884 (by decide) ?_
  refine lv_iadd hx hb dL_law_885 ?_
  refine va_sld (A := CA s.heap.size) hx hb hX hbl hbA hS (la_in (k := 3) hi (by decide) hL rfl) dL_law_886 ?_
  refine lv_aload_n hx hb dL_law_887 rfl (lv_at hl 0 rfl) ?_
  refine lv_iload_n hx hb dL_law_888 rfl (lv_at hl 3 rfl) ?_
  refine lv_iconst (v := 4) hx hb dL_law_889 (by decide) ?_
  refine lv_iadd hx hb dL_law_890 ?_
  refine va_sld (A := CA s.heap.size) hx hb hX hbl hbA hS (la_in (k := 4) hi (by decide) hL rfl) dL_law_891 ?_
  refine lv_aload_n hx hb dL_law_892 rfl (lv_at hl 0 rfl) ?_
  refine lv_iload_n hx hb dL_law_893 rfl (lv_at hl 3 rfl) ?_
  refine lv_iconst (v := 5) hx hb dL_law_894 (by decide) ?_
  refine lv_iadd hx hb dL_law_895 ?_
  refine va_sld (A := CA s.heap.size) hx hb hX hbl hbA hS (la_in (k := 5) hi (by decide) hL rfl) dL_law_896 ?_
  refine lv_aload_n hx hb dL_law_897 rfl (lv_at hl 0 rfl) ?_
  refine lv_iload_n hx hb dL_law_898 rfl (lv_at hl 3 rfl) ?_
  refine lv_bipush (v := 6) hx hb dL_law_899 (by decide) ?_
  refine lv_iadd hx hb dL_law_901 ?_
  refine va_sld (A := CA s.heap.size) hx hb hX hbl hbA hS (la_in (k := 6) hi (by decide) hL rfl) dL_law_902 ?_
  obtain ⟨r, u1, v1, e1, e2, hrel1⟩ := hop u v hrel (xs ((nI i) + 1).toNatClampNeg) (xs ((nI i) + 2).toNatClampNeg) (xs ((nI i) + 3).toNatClampNeg) (xs ((nI i) + 4).toNatClampNeg) (xs ((nI i) + 5).toNatClampNeg) (xs ((nI i) + 6).toNatClampNeg)
  refine la_call (sh := shC) (sh' := shR) (a := 3) (b := 0) (k := 0) (ci := 7) (T := TX7) (N := 8) (As := [.int (xs ((nI i) + 1).toNatClampNeg), .int (xs ((nI i) + 2).toNatClampNeg), .int (xs ((nI i) + 3).toNatClampNeg), .int (xs ((nI i) + 4).toNatClampNeg), .int (xs ((nI i) + 5).toNatClampNeg), .int (xs ((nI i) + 6).toNatClampNeg)]) (rest := []) S hK hZC la_subC la_disC hPC hPR hS (c_X7_seen l (D, cA, adL s.heap.size a0 a1) N (XD_C D cA s.heap.size a0 a1) (xs ((nI i) + 1).toNatClampNeg) (xs ((nI i) + 2).toNatClampNeg) (xs ((nI i) + 3).toNatClampNeg) (xs ((nI i) + 4).toNatClampNeg) (xs ((nI i) + 5).toNatClampNeg) (xs ((nI i) + 6).toNatClampNeg) u e1) ⟨wd_796, wd_793, wd_794, wd_795, wd_54⟩ hd_X7_seen ⟨by decide, by decide⟩ rfl (kyO (by decide)) rfl rfl hl.1 rfl (Nat.le_of_ble_eq_true rfl) dL_law_903 ⟨by decide, by decide⟩ (fun H locs hPC hPR hS => ?_)
  refine lv_aload_n hx hb dL_law_906 rfl (lv_at hl 2 rfl) ?_
  refine lv_aload_n hx hb dL_law_907 rfl (lv_at hl 0 rfl) ?_
  refine lv_iload_n hx hb dL_law_908 rfl (lv_at hl 3 rfl) ?_
  refine lv_iconst (v := 1) hx hb dL_law_909 (by decide) ?_
  refine lv_iadd hx hb dL_law_910 ?_
  refine va_sld (A := CA s.heap.size) hx hb hX hbl hbA hS (la_in (k := 1) hi (by decide) hL rfl) dL_law_911 ?_
  refine lv_aload_n hx hb dL_law_912 rfl (lv_at hl 0 rfl) ?_
  refine lv_iload_n hx hb dL_law_913 rfl (lv_at hl 3 rfl) ?_
  refine lv_iconst (v := 2) hx hb dL_law_914 (by decide) ?_
  refine lv_iadd hx hb dL_law_915 ?_
  refine va_sld (A := CA s.heap.size) hx hb hX hbl hbA hS (la_in (k := 2) hi (by decide) hL rfl) dL_law_916 ?_
  refine lv_aload_n hx hb dL_law_917 rfl (lv_at hl 0 rfl) ?_
  refine lv_iload_n hx hb dL_law_918 rfl (lv_at hl 3 rfl) ?_
  refine lv_iconst (v := 3) hx hb dL_law_919 (by decide) ?_
  refine lv_iadd hx hb dL_law_920 ?_
  refine va_sld (A := CA s.heap.size) hx hb hX hbl hbA hS (la_in (k := 3) hi (by decide) hL rfl) dL_law_921 ?_
  refine lv_aload_n hx hb dL_law_922 rfl (lv_at hl 0 rfl) ?_
  refine lv_iload_n hx hb dL_law_923 rfl (lv_at hl 3 rfl) ?_
  refine lv_iconst (v := 4) hx hb dL_law_924 (by decide) ?_
  refine lv_iadd hx hb dL_law_925 ?_
  refine va_sld (A := CA s.heap.size) hx hb hX hbl hbA hS (la_in (k := 4) hi (by decide) hL rfl) dL_law_926 ?_
  refine lv_aload_n hx hb dL_law_927 rfl (lv_at hl 0 rfl) ?_
  refine lv_iload_n hx hb dL_law_928 rfl (lv_at hl 3 rfl) ?_
  refine lv_iconst (v := 5) hx hb dL_law_929 (by decide) ?_
  refine lv_iadd hx hb dL_law_930 ?_
  refine va_sld (A := CA s.heap.size) hx hb hX hbl hbA hS (la_in (k := 5) hi (by decide) hL rfl) dL_law_931 ?_
  refine lv_aload_n hx hb dL_law_932 rfl (lv_at hl 0 rfl) ?_
  refine lv_iload_n hx hb dL_law_933 rfl (lv_at hl 3 rfl) ?_
  refine lv_bipush (v := 6) hx hb dL_law_934 (by decide) ?_
  refine lv_iadd hx hb dL_law_936 ?_
  refine va_sld (A := CA s.heap.size) hx hb hX hbl hbA hS (la_in (k := 6) hi (by decide) hL rfl) dL_law_937 ?_
  refine la_call (sh := shR) (sh' := shC) (a := 9) (b := 0) (k := 0) (ci := 8) (T := TX8) (N := 31) (As := [.int (xs ((nI i) + 1).toNatClampNeg), .int (xs ((nI i) + 2).toNatClampNeg), .int (xs ((nI i) + 3).toNatClampNeg), .int (xs ((nI i) + 4).toNatClampNeg), .int (xs ((nI i) + 5).toNatClampNeg), .int (xs ((nI i) + 6).toNatClampNeg)]) (rest := [.int r]) S hK hZR la_subR la_disR hPR hPC hS (c_X8_seen l (D, cA, adL s.heap.size a0 a1) N (XD_R D cA s.heap.size a0 a1) (xs ((nI i) + 1).toNatClampNeg) (xs ((nI i) + 2).toNatClampNeg) (xs ((nI i) + 3).toNatClampNeg) (xs ((nI i) + 4).toNatClampNeg) (xs ((nI i) + 5).toNatClampNeg) (xs ((nI i) + 6).toNatClampNeg) v e2) ⟨wd_1220, wd_1217, wd_1218, wd_1219, wd_62⟩ hd_X8_seen ⟨by decide, by decide⟩ rfl (kyM (by decide)) rfl rfl hl.1 rfl (Nat.le_of_ble_eq_true rfl) dL_law_938 ⟨by decide, by decide⟩ (fun H locs hPR hPC hS => ?_)
  refine lv_icmp_eq (tgt := 1211) hx hb dL_law_941 (by decide) (fun _ => ?_) (fun h => absurd rfl h)
  exact hnext u1 v1 _ _ _ hrel1 hPC hPR hS hl
set_option maxRecDepth 100000 in
set_option maxHeartbeats 4000000 in
theorem law_film (N : Nat) {Rel : Mm → Mm → Prop} (hop : Op_film N Rel) {p : Program} {l : Launch} {e : Env} {s : State} {m : MethodId} {below : List Frame} {meth : Method} {c : Code} {D : va_G} {cA : Nat → ClassId} {a0 a1 b L : Nat} {xs : Nat → Int32} (hL : L ≤ 3584) (C0 : lw_At p s m meth c b L xs) (hK : XK (D, cA, adL s.heap.size a0 a1) s) (hZC : XZ shC (D, cA, adL s.heap.size a0 a1) s s.heap) (hZR : XZ shR (D, cA, adL s.heap.size a0 a1) s s.heap) {i : Nat} (hi : i + 7 ≤ L) (hnext : ∀ (u v : Mm) (H : Heap) (locs : List Loc) (ls : Array Slot), Rel u v → XP shC (D, cA, adL s.heap.size a0 a1) u H → XP shR (D, cA, adL s.heap.size a0 a1) v H → va_S (CA s.heap.size) s.heap H locs → lv_has ls 4 [(0, .ref b), (1, .ref (adL s.heap.size a0 a1 (3, 0, 0))), (2, .ref (adL s.heap.size a0 a1 (9, 0, 0))), (3, .int (nI i))] → W p l e room_1 s m #[Value.ref b] below meth c H locs 207 2270 (lw_Z below #[Value.ref b] s) (F0 m 1211 ls [])) {u v : Mm} (hrel : Rel u v) {H : Heap} {locs : List Loc} {ls : Array Slot} (hPC : XP shC (D, cA, adL s.heap.size a0 a1) u H) (hPR : XP shR (D, cA, adL s.heap.size a0 a1) v H) (hS : va_S (CA s.heap.size) s.heap H locs) (hl : lv_has ls 4 [(0, .ref b), (1, .ref (adL s.heap.size a0 a1 (3, 0, 0))), (2, .ref (adL s.heap.size a0 a1 (9, 0, 0))), (3, .int (nI i))]) : W p l e room_1 s m #[Value.ref b] below meth c H locs 207 2270 (lw_Z below #[Value.ref b] s) (F0 m 946 ls []) := by
  obtain ⟨hx, hb, hr, hml, hown, hts, hX, hbl, hlocks, hgv⟩ := C0
  have S : CallFix p m c code 4 s #[Value.ref b] lw_tbl RL := ⟨hx, hb, hml, hown, hts⟩
  have hbA : ¬ CA s.heap.size b := Nat.not_le.mpr hbl
  refine lv_aload_n hx hb dL_law_946 rfl (lv_at hl 1 rfl) ?_
  refine lv_aload_n hx hb dL_law_947 rfl (lv_at hl 0 rfl) ?_
  refine lv_iload_n hx hb dL_law_948 rfl (lv_at hl 3 rfl) ?_
  refine lv_iconst (v := 1) hx hb dL_law_949 (by decide) ?_
  refine lv_iadd hx hb dL_law_950 ?_
  refine va_sld (A := CA s.heap.size) hx hb hX hbl hbA hS (la_in (k := 1) hi (by decide) hL rfl) dL_law_951 ?_
  refine lv_aload_n hx hb dL_law_952 rfl (lv_at hl 0 rfl) ?_
  refine lv_iload_n hx hb dL_law_953 rfl (lv_at hl 3 rfl) ?_
  refine lv_iconst (v := 2) hx hb dL_law_954 (by decide) ?_
  refine lv_iadd hx hb dL_law_955 ?_
  refine va_sld (A := CA s.heap.size) hx hb hX hbl hbA hS (la_in (k := 2) hi (by decide) hL rfl) dL_law_956 ?_
  refine lv_aload_n hx hb dL_law_957 rfl (lv_at hl 0 rfl) ?_
  refine lv_iload_n hx hb dL_law_958 rfl (lv_at hl 3 rfl) ?_
  refine lv_iconst (v := 3) hx hb dL_law_959 (by decide) ?_
  refine lv_iadd hx hb dL_law_960 ?_
  refine va_sld (A := CA s.heap.size) hx hb hX hbl hbA hS (la_in (k := 3) hi (by decide) hL rfl) dL_law_961 ?_
  refine lv_aload_n hx hb dL_law_962 rfl (lv_at hl 0 rfl) ?_
  refine lv_iload_n hx hb dL_law_963 rfl (lv_at hl 3 rfl) ?_
  refine lv_iconst (v := 4) hx hb dL_law_964 (by decide) ?_
  refine lv_iadd hx hb dL_law_965 ?_
  refine va_sld (A := CA s.heap.size) hx hb hX hbl hbA hS (la_in (k := 4) hi (by decide) hL rfl) dL_law_966 ?_
  obtain ⟨r, u1, v1, e1, e2, hrel1⟩ := hop u v hrel (xs ((nI i) + 1).toNatClampNeg) (xs ((nI i) + 2).toNatClampNeg) (xs ((nI i) + 3).toNatClampNeg) (xs ((nI i) + 4).toNatClampNeg)
  refine la_call (sh := shC) (sh' := shR) (a := 3) (b := 0) (k := 0) (ci := 7) (T := TX7) (N := 8) (As := [.int (xs ((nI i) + 1).toNatClampNeg), .int (xs ((nI i) + 2).toNatClampNeg), .int (xs ((nI i) + 3).toNatClampNeg), .int (xs ((nI i) + 4).toNatClampNeg)]) (rest := []) S hK hZC la_subC la_disC hPC hPR hS (c_X7_film l (D, cA, adL s.heap.size a0 a1) N (XD_C D cA s.heap.size a0 a1) (xs ((nI i) + 1).toNatClampNeg) (xs ((nI i) + 2).toNatClampNeg) (xs ((nI i) + 3).toNatClampNeg) (xs ((nI i) + 4).toNatClampNeg) u e1) ⟨wd_830, wd_827, wd_828, wd_829, wd_54⟩ hd_X7_film ⟨by decide, by decide⟩ rfl (kyO (by decide)) rfl rfl hl.1 rfl (Nat.le_of_ble_eq_true rfl) dL_law_967 ⟨by decide, by decide⟩ (fun H locs hPC hPR hS => ?_)
  refine lv_aload_n hx hb dL_law_970 rfl (lv_at hl 2 rfl) ?_
  refine lv_aload_n hx hb dL_law_971 rfl (lv_at hl 0 rfl) ?_
  refine lv_iload_n hx hb dL_law_972 rfl (lv_at hl 3 rfl) ?_
  refine lv_iconst (v := 1) hx hb dL_law_973 (by decide) ?_
  refine lv_iadd hx hb dL_law_974 ?_
  refine va_sld (A := CA s.heap.size) hx hb hX hbl hbA hS (la_in (k := 1) hi (by decide) hL rfl) dL_law_975 ?_
  refine lv_aload_n hx hb dL_law_976 rfl (lv_at hl 0 rfl) ?_
  refine lv_iload_n hx hb dL_law_977 rfl (lv_at hl 3 rfl) ?_
  refine lv_iconst (v := 2) hx hb dL_law_978 (by decide) ?_
  refine lv_iadd hx hb dL_law_979 ?_
  refine va_sld (A := CA s.heap.size) hx hb hX hbl hbA hS (la_in (k := 2) hi (by decide) hL rfl) dL_law_980 ?_
  refine lv_aload_n hx hb dL_law_981 rfl (lv_at hl 0 rfl) ?_
  refine lv_iload_n hx hb dL_law_982 rfl (lv_at hl 3 rfl) ?_
  refine lv_iconst (v := 3) hx hb dL_law_983 (by decide) ?_
  refine lv_iadd hx hb dL_law_984 ?_
  refine va_sld (A := CA s.heap.size) hx hb hX hbl hbA hS (la_in (k := 3) hi (by decide) hL rfl) dL_law_985 ?_
  refine lv_aload_n hx hb dL_law_986 rfl (lv_at hl 0 rfl) ?_
  refine lv_iload_n hx hb dL_law_987 rfl (lv_at hl 3 rfl) ?_
  refine lv_iconst (v := 4) hx hb dL_law_988 (by decide) ?_
  refine lv_iadd hx hb dL_law_989 ?_
  refine va_sld (A := CA s.heap.size) hx hb hX hbl hbA hS (la_in (k := 4) hi (by decide) hL rfl) dL_law_990 ?_
  refine la_call (sh := shR) (sh' := shC) (a := 9) (b := 0) (k := 0) (ci := 8) (T := TX8) (N := 31) (As := [.int (xs ((nI i) + 1).toNatClampNeg), .int (xs ((nI i) + 2).toNatClampNeg), .int (xs ((nI i) + 3).toNatClampNeg), .int (xs ((nI i) + 4).toNatClampNeg)]) (rest := [.int r]) S hK hZR la_subR la_disR hPR hPC hS (c_X8_film l (D, cA, adL s.heap.size a0 a1) N (XD_R D cA s.heap.size a0 a1) (xs ((nI i) + 1).toNatClampNeg) (xs ((nI i) + 2).toNatClampNeg) (xs ((nI i) + 3).toNatClampNeg) (xs ((nI i) + 4).toNatClampNeg) v e2) ⟨wd_1248, wd_1245, wd_1246, wd_1247, wd_62⟩ hd_X8_film ⟨by decide, by decide⟩ rfl (kyM (by decide)) rfl rfl hl.1 rfl (Nat.le_of_ble_eq_true rfl) dL_law_991 ⟨by decide, by decide⟩ (fun H locs hPR hPC hS => ?_)
  refine lv_icmp_eq (tgt := 1211) hx hb dL_law_994 (by decide) (fun _ => ?_) (fun h => absurd rfl h)
  exact hnext u1 v1 _ _ _ hrel1 hPC hPR hS hl
set_option maxRecDepth 100000 in
set_option maxHeartbeats 4000000 in
theorem law_sheet (N : Nat) {Rel : Mm → Mm → Prop} (hop : Op_sheet N Rel) {p : Program} {l : Launch} {e : Env} {s : State} {m : MethodId} {below : List Frame} {meth : Method} {c : Code} {D : va_G} {cA : Nat → ClassId} {a0 a1 b L : Nat} {xs : Nat → Int32} (hL : L ≤ 3584) (C0 : lw_At p s m meth c b L xs) (hK : XK (D, cA, adL s.heap.size a0 a1) s) (hZC : XZ shC (D, cA, adL s.heap.size a0 a1) s s.heap) (hZR : XZ shR (D, cA, adL s.heap.size a0 a1) s s.heap) {i : Nat} (hi : i + 7 ≤ L) (hnext : ∀ (u v : Mm) (H : Heap) (locs : List Loc) (ls : Array Slot), Rel u v → XP shC (D, cA, adL s.heap.size a0 a1) u H → XP shR (D, cA, adL s.heap.size a0 a1) v H → va_S (CA s.heap.size) s.heap H locs → lv_has ls 4 [(0, .ref b), (1, .ref (adL s.heap.size a0 a1 (3, 0, 0))), (2, .ref (adL s.heap.size a0 a1 (9, 0, 0))), (3, .int (nI i))] → W p l e room_1 s m #[Value.ref b] below meth c H locs 207 2270 (lw_Z below #[Value.ref b] s) (F0 m 1211 ls [])) {u v : Mm} (hrel : Rel u v) {H : Heap} {locs : List Loc} {ls : Array Slot} (hPC : XP shC (D, cA, adL s.heap.size a0 a1) u H) (hPR : XP shR (D, cA, adL s.heap.size a0 a1) v H) (hS : va_S (CA s.heap.size) s.heap H locs) (hl : lv_has ls 4 [(0, .ref b), (1, .ref (adL s.heap.size a0 a1 (3, 0, 0))), (2, .ref (adL s.heap.size a0 a1 (9, 0, 0))), (3, .int (nI i))]) : W p l e room_1 s m #[Value.ref b] below meth c H locs 207 2270 (lw_Z below #[Value.ref b] s) (F0 m 999 ls []) := by
  obtain ⟨hx, hb, hr, hml, hown, hts, hX, hbl, hlocks, hgv⟩ := C0
  have S : CallFix p m c code 4 s #[Value.ref b] lw_tbl RL := ⟨hx, hb, hml, hown, hts⟩
  have hbA : ¬ CA s.heap.size b := Nat.not_le.mpr hbl
  refine lv_aload_n hx hb dL_law_999 rfl (lv_at hl 1 rfl) ?_
  refine lv_aload_n hx hb dL_law_1000 rfl (lv_at hl 0 rfl) ?_
  refine lv_iload_n hx hb dL_law_1001 rfl (lv_at hl 3 rfl) ?_
  refine lv_iconst (v := 1) hx hb dL_law_1002 (by decide) ?_
  refine lv_iadd hx hb dL_law_1003 ?_
  refine va_sld (A := CA s.heap.size) hx hb hX hbl hbA hS (la_in (k := 1) hi (by decide) hL rfl) dL_law_1004 ?_
  refine lv_aload_n hx hb dL_law_1005 rfl (lv_at hl 0 rfl) ?_
  refine lv_iload_n hx hb dL_law_1006 rfl (lv_at hl 3 rfl) ?_
  refine lv_iconst (v := 2) hx hb dL_law_1007 (by decide) ?_
  refine lv_iadd hx hb dL_law_1008 ?_
  refine va_sld (A := CA s.heap.size) hx hb hX hbl hbA hS (la_in (k := 2) hi (by decide) hL rfl) dL_law_1009 ?_
  refine lv_aload_n hx hb dL_law_1010 rfl (lv_at hl 0 rfl) ?_
  refine lv_iload_n hx hb dL_law_1011 rfl (lv_at hl 3 rfl) ?_
  refine lv_iconst (v := 3) hx hb dL_law_1012 (by decide) ?_
  refine lv_iadd hx hb dL_law_1013 ?_
  refine va_sld (A := CA s.heap.size) hx hb hX hbl hbA hS (la_in (k := 3) hi (by decide) hL rfl) dL_law_1014 ?_
  obtain ⟨r, u1, v1, e1, e2, hrel1⟩ := hop u v hrel (xs ((nI i) + 1).toNatClampNeg) (xs ((nI i) + 2).toNatClampNeg) (xs ((nI i) + 3).toNatClampNeg)
  refine la_call (sh := shC) (sh' := shR) (a := 3) (b := 0) (k := 0) (ci := 7) (T := TX7) (N := 8) (As := [.int (xs ((nI i) + 1).toNatClampNeg), .int (xs ((nI i) + 2).toNatClampNeg), .int (xs ((nI i) + 3).toNatClampNeg)]) (rest := []) S hK hZC la_subC la_disC hPC hPR hS (c_X7_sheet l (D, cA, adL s.heap.size a0 a1) N (XD_C D cA s.heap.size a0 a1) (xs ((nI i) + 1).toNatClampNeg) (xs ((nI i) + 2).toNatClampNeg) (xs ((nI i) + 3).toNatClampNeg) u e1) ⟨wd_846, wd_843, wd_844, wd_845, wd_54⟩ hd_X7_sheet ⟨by decide, by decide⟩ rfl (kyO (by decide)) rfl rfl hl.1 rfl (Nat.le_of_ble_eq_true rfl) dL_law_1015 ⟨by decide, by decide⟩ (fun H locs hPC hPR hS => ?_)
  refine lv_aload_n hx hb dL_law_1018 rfl (lv_at hl 2 rfl) ?_
  refine lv_aload_n hx hb dL_law_1019 rfl (lv_at hl 0 rfl) ?_
  refine lv_iload_n hx hb dL_law_1020 rfl (lv_at hl 3 rfl) ?_
  refine lv_iconst (v := 1) hx hb dL_law_1021 (by decide) ?_
  refine lv_iadd hx hb dL_law_1022 ?_
  refine va_sld (A := CA s.heap.size) hx hb hX hbl hbA hS (la_in (k := 1) hi (by decide) hL rfl) dL_law_1023 ?_
  refine lv_aload_n hx hb dL_law_1024 rfl (lv_at hl 0 rfl) ?_
  refine lv_iload_n hx hb dL_law_1025 rfl (lv_at hl 3 rfl) ?_
  refine lv_iconst (v := 2) hx hb dL_law_1026 (by decide) ?_
  refine lv_iadd hx hb dL_law_1027 ?_
  refine va_sld (A := CA s.heap.size) hx hb hX hbl hbA hS (la_in (k := 2) hi (by decide) hL rfl) dL_law_1028 ?_
  refine lv_aload_n hx hb dL_law_1029 rfl (lv_at hl 0 rfl) ?_
  refine lv_iload_n hx hb dL_law_1030 rfl (lv_at hl 3 rfl) ?_
  refine lv_iconst (v := 3) hx hb dL_law_1031 (by decide) ?_
  refine lv_iadd hx hb dL_law_1032 ?_
  refine va_sld (A := CA s.heap.size) hx hb hX hbl hbA hS (la_in (k := 3) hi (by decide) hL rfl) dL_law_1033 ?_
  refine la_call (sh := shR) (sh' := shC) (a := 9) (b := 0) (k := 0) (ci := 8) (T := TX8) (N := 31) (As := [.int (xs ((nI i) + 1).toNatClampNeg), .int (xs ((nI i) + 2).toNatClampNeg), .int (xs ((nI i) + 3).toNatClampNeg)]) (rest := [.int r]) S hK hZR la_subR la_disR hPR hPC hS (c_X8_sheet l (D, cA, adL s.heap.size a0 a1) N (XD_R D cA s.heap.size a0 a1) (xs ((nI i) + 1).toNatClampNeg) (xs ((nI i) + 2).toNatClampNeg) (xs ((nI i) + 3).toNatClampNeg) v e2) ⟨wd_1253, wd_1250, wd_1251, wd_1252, wd_62⟩ hd_X8_sheet ⟨by decide, by decide⟩ rfl (kyM (by decide)) rfl rfl hl.1 rfl (Nat.le_of_ble_eq_true rfl) dL_law_1034 ⟨by decide, by decide⟩ (fun H locs hPR hPC hS => ?_)
  refine lv_icmp_eq (tgt := 1211) hx hb dL_law_1037 (by decide) (fun _ => ?_) (fun h => absurd rfl h)
  exact hnext u1 v1 _ _ _ hrel1 hPC hPR hS hl
set_option maxRecDepth 100000 in
set_option maxHeartbeats 4000000 in
theorem law_drop (N : Nat) {Rel : Mm → Mm → Prop} (hop : Op_drop N Rel) {p : Program} {l : Launch} {e : Env} {s : State} {m : MethodId} {below : List Frame} {meth : Method} {c : Code} {D : va_G} {cA : Nat → ClassId} {a0 a1 b L : Nat} {xs : Nat → Int32} (hL : L ≤ 3584) (C0 : lw_At p s m meth c b L xs) (hK : XK (D, cA, adL s.heap.size a0 a1) s) (hZC : XZ shC (D, cA, adL s.heap.size a0 a1) s s.heap) (hZR : XZ shR (D, cA, adL s.heap.size a0 a1) s s.heap) {i : Nat} (hi : i + 7 ≤ L) (hnext : ∀ (u v : Mm) (H : Heap) (locs : List Loc) (ls : Array Slot), Rel u v → XP shC (D, cA, adL s.heap.size a0 a1) u H → XP shR (D, cA, adL s.heap.size a0 a1) v H → va_S (CA s.heap.size) s.heap H locs → lv_has ls 4 [(0, .ref b), (1, .ref (adL s.heap.size a0 a1 (3, 0, 0))), (2, .ref (adL s.heap.size a0 a1 (9, 0, 0))), (3, .int (nI i))] → W p l e room_1 s m #[Value.ref b] below meth c H locs 207 2270 (lw_Z below #[Value.ref b] s) (F0 m 1211 ls [])) {u v : Mm} (hrel : Rel u v) {H : Heap} {locs : List Loc} {ls : Array Slot} (hPC : XP shC (D, cA, adL s.heap.size a0 a1) u H) (hPR : XP shR (D, cA, adL s.heap.size a0 a1) v H) (hS : va_S (CA s.heap.size) s.heap H locs) (hl : lv_has ls 4 [(0, .ref b), (1, .ref (adL s.heap.size a0 a1 (3, 0, 0))), (2, .ref (adL s.heap.size a0 a1 (9, 0, 0))), (3, .int (nI i))]) : W p l e room_1 s m #[Value.ref b] below meth c H locs 207 2270 (lw_Z below #[Value.ref b] s) (F0 m 1042 ls []) := by
  obtain ⟨hx, hb, hr, hml, hown, hts, hX, hbl, hlocks, hgv⟩ := C0
  have S : CallFix p m c code 4 s #[Value.ref b] lw_tbl RL := ⟨hx, hb, hml, hown, hts⟩
  have hbA : ¬ CA s.heap.size b := Nat.not_le.mpr hbl
  refine lv_aload_n hx hb dL_law_1042 rfl (lv_at hl 1 rfl) ?_
  refine lv_aload_n hx hb dL_law_1043 rfl (lv_at hl 0 rfl) ?_
  refine lv_iload_n hx hb dL_law_1044 rfl (lv_at hl 3 rfl) ?_
  refine lv_iconst (v := 1) hx hb dL_law_1045 (by decide) ?_
  refine lv_iadd hx hb dL_law_1046 ?_
  refine va_sld (A := CA s.heap.size) hx hb hX hbl hbA hS (la_in (k := 1) hi (by decide) hL rfl) dL_law_1047 ?_
  obtain ⟨r, u1, v1, e1, e2, hrel1⟩ := hop u v hrel (xs ((nI i) + 1).toNatClampNeg)
  refine la_call (sh := shC) (sh' := shR) (a := 3) (b := 0) (k := 0) (ci := 7) (T := TX7) (N := 8) (As := [.int (xs ((nI i) + 1).toNatClampNeg)]) (rest := []) S hK hZC la_subC la_disC hPC hPR hS (c_X7_drop l (D, cA, adL s.heap.size a0 a1) (XD_C D cA s.heap.size a0 a1) (xs ((nI i) + 1).toNatClampNeg) u e1) ⟨wd_857, wd_854, wd_855, wd_856, wd_54⟩ hd_X7_drop ⟨by decide, by decide⟩ rfl (kyO (by decide)) rfl rfl hl.1 rfl (Nat.le_of_ble_eq_true rfl) dL_law_1048 ⟨by decide, by decide⟩ (fun H locs hPC hPR hS => ?_)
  refine lv_aload_n hx hb dL_law_1051 rfl (lv_at hl 2 rfl) ?_
  refine lv_aload_n hx hb dL_law_1052 rfl (lv_at hl 0 rfl) ?_
  refine lv_iload_n hx hb dL_law_1053 rfl (lv_at hl 3 rfl) ?_
  refine lv_iconst (v := 1) hx hb dL_law_1054 (by decide) ?_
  refine lv_iadd hx hb dL_law_1055 ?_
  refine va_sld (A := CA s.heap.size) hx hb hX hbl hbA hS (la_in (k := 1) hi (by decide) hL rfl) dL_law_1056 ?_
  refine la_call (sh := shR) (sh' := shC) (a := 9) (b := 0) (k := 0) (ci := 8) (T := TX8) (N := 31) (As := [.int (xs ((nI i) + 1).toNatClampNeg)]) (rest := [.int r]) S hK hZR la_subR la_disR hPR hPC hS (c_X8_drop l (D, cA, adL s.heap.size a0 a1) (XD_R D cA s.heap.size a0 a1) (xs ((nI i) + 1).toNatClampNeg) v e2) ⟨wd_1257, wd_1254, wd_1255, wd_1256, wd_62⟩ hd_X8_drop ⟨by decide, by decide⟩ rfl (kyM (by decide)) rfl rfl hl.1 rfl (Nat.le_of_ble_eq_true rfl) dL_law_1057 ⟨by decide, by decide⟩ (fun H locs hPR hPC hS => ?_)
  refine lv_icmp_eq (tgt := 1211) hx hb dL_law_1060 (by decide) (fun _ => ?_) (fun h => absurd rfl h)
  exact hnext u1 v1 _ _ _ hrel1 hPC hPR hS hl
set_option maxRecDepth 100000 in
set_option maxHeartbeats 4000000 in
theorem law_item (N : Nat) {Rel : Mm → Mm → Prop} (hop : Op_item N Rel) {p : Program} {l : Launch} {e : Env} {s : State} {m : MethodId} {below : List Frame} {meth : Method} {c : Code} {D : va_G} {cA : Nat → ClassId} {a0 a1 b L : Nat} {xs : Nat → Int32} (hL : L ≤ 3584) (C0 : lw_At p s m meth c b L xs) (hK : XK (D, cA, adL s.heap.size a0 a1) s) (hZC : XZ shC (D, cA, adL s.heap.size a0 a1) s s.heap) (hZR : XZ shR (D, cA, adL s.heap.size a0 a1) s s.heap) {i : Nat} (hi : i + 7 ≤ L) (hnext : ∀ (u v : Mm) (H : Heap) (locs : List Loc) (ls : Array Slot), Rel u v → XP shC (D, cA, adL s.heap.size a0 a1) u H → XP shR (D, cA, adL s.heap.size a0 a1) v H → va_S (CA s.heap.size) s.heap H locs → lv_has ls 4 [(0, .ref b), (1, .ref (adL s.heap.size a0 a1 (3, 0, 0))), (2, .ref (adL s.heap.size a0 a1 (9, 0, 0))), (3, .int (nI i))] → W p l e room_1 s m #[Value.ref b] below meth c H locs 207 2270 (lw_Z below #[Value.ref b] s) (F0 m 1211 ls [])) {u v : Mm} (hrel : Rel u v) {H : Heap} {locs : List Loc} {ls : Array Slot} (hPC : XP shC (D, cA, adL s.heap.size a0 a1) u H) (hPR : XP shR (D, cA, adL s.heap.size a0 a1) v H) (hS : va_S (CA s.heap.size) s.heap H locs) (hl : lv_has ls 4 [(0, .ref b), (1, .ref (adL s.heap.size a0 a1 (3, 0, 0))), (2, .ref (adL s.heap.size a0 a1 (9, 0, 0))), (3, .int (nI i))]) : W p l e room_1 s m #[Value.ref b] below meth c H locs 207 2270 (lw_Z below #[Value.ref b] s) (F0 m 1065 ls []) := by
  obtain ⟨hx, hb, hr, hml, hown, hts, hX, hbl, hlocks, hgv⟩ := C0
  have S : CallFix p m c code 4 s #[Value.ref b] lw_tbl RL := ⟨hx, hb, hml, hown, hts⟩
  have hbA : ¬ CA s.heap.size b := Nat.not_le.mpr hbl
  refine lv_aload_n hx hb dL_law_1065 rfl (lv_at hl 1 rfl) ?_
  refine lv_aload_n hx hb dL_law_1066 rfl (lv_at hl 0 rfl) ?_
  refine lv_iload_n hx hb dL_law_1067 rfl (lv_at hl 3 rfl) ?_
  refine lv_iconst (v := 1) hx hb dL_law_1068 (by decide) ?_
  refine lv_iadd hx hb dL_law_1069 ?_
  refine va_sld (A := CA s.heap.size) hx hb hX hbl hbA hS (la_in (k := 1) hi (by decide) hL rfl) dL_law_1070 ?_
  refine lv_aload_n hx hb dL_law_1071 rfl (lv_at hl 0 rfl) ?_
  refine lv_iload_n hx hb dL_law_1072 rfl (lv_at hl 3 rfl) ?_
  refine lv_iconst (v := 2) hx hb dL_law_1073 (by decide) ?_
  refine lv_iadd hx hb dL_law_1074 ?_
  refine va_sld (A := CA s.heap.size) hx hb hX hbl hbA hS (la_in (k := 2) hi (by decide) hL rfl) dL_law_1075 ?_
  refine lv_aload_n hx hb dL_law_1076 rfl (lv_at hl 0 rfl) ?_
  refine lv_iload_n hx hb dL_law_1077 rfl (lv_at hl 3 rfl) ?_
  refine lv_iconst (v := 3) hx hb dL_law_1078 (by decide) ?_
  refine lv_iadd hx hb dL_law_1079 ?_
  refine va_sld (A := CA s.heap.size) hx hb hX hbl hbA hS (la_in (k := 3) hi (by decide) hL rfl) dL_law_1080 ?_
  refine lv_aload_n hx hb dL_law_1081 rfl (lv_at hl 0 rfl) ?_
  refine lv_iload_n hx hb dL_law_1082 rfl (lv_at hl 3 rfl) ?_
  refine lv_iconst (v := 4) hx hb dL_law_1083 (by decide) ?_
  refine lv_iadd hx hb dL_law_1084 ?_
  refine va_sld (A := CA s.heap.size) hx hb hX hbl hbA hS (la_in (k := 4) hi (by decide) hL rfl) dL_law_1085 ?_
  refine lv_i2l (v := ((xs ((nI i) + 4).toNatClampNeg).toInt64)) hx hb dL_law_1086 rfl ?_
  refine lv_bipush (v := 32) hx hb dL_law_1087 (by decide) ?_
  refine lv_lshl (v := (((xs ((nI i) + 4).toNatClampNeg).toInt64) <<< ((32 : Int32).toInt64 &&& 63))) hx hb dL_law_1089 rfl ?_
  refine lv_aload_n hx hb dL_law_1090 rfl (lv_at hl 0 rfl) ?_
  refine lv_iload_n hx hb dL_law_1091 rfl (lv_at hl 3 rfl) ?_
  refine lv_iconst (v := 5) hx hb dL_law_1092 (by decide) ?_
  refine lv_iadd hx hb dL_law_1093 ?_
  refine va_sld (A := CA s.heap.size) hx hb hX hbl hbA hS (la_in (k := 5) hi (by decide) hL rfl) dL_law_1094 ?_
  refine lv_i2l (v := ((xs ((nI i) + 5).toNatClampNeg).toInt64)) hx hb dL_law_1095 rfl ?_
  refine lv_ldc2 (v := 4294967295) hx hb hown (hts _ (gw_sub wd_1266)) dL_law_1096 ?_
  refine lv_land hx hb dL_law_1099 ?_
  refine lv_lor hx hb dL_law_1100 ?_
  obtain ⟨r, u1, v1, e1, e2, hrel1⟩ := hop u v hrel (xs ((nI i) + 1).toNatClampNeg) (xs ((nI i) + 2).toNatClampNeg) (xs ((nI i) + 3).toNatClampNeg) ((((xs ((nI i) + 4).toNatClampNeg).toInt64) <<< ((32 : Int32).toInt64 &&& 63)) ||| (((xs ((nI i) + 5).toNatClampNeg).toInt64) &&& 4294967295))
  refine la_call (sh := shC) (sh' := shR) (a := 3) (b := 0) (k := 0) (ci := 7) (T := TX7) (N := 8) (As := [.int (xs ((nI i) + 1).toNatClampNeg), .int (xs ((nI i) + 2).toNatClampNeg), .int (xs ((nI i) + 3).toNatClampNeg), .long ((((xs ((nI i) + 4).toNatClampNeg).toInt64) <<< ((32 : Int32).toInt64 &&& 63)) ||| (((xs ((nI i) + 5).toNatClampNeg).toInt64) &&& 4294967295))]) (rest := []) S hK hZC la_subC la_disC hPC hPR hS (c_X7_item l (D, cA, adL s.heap.size a0 a1) (XD_C D cA s.heap.size a0 a1) (xs ((nI i) + 1).toNatClampNeg) (xs ((nI i) + 2).toNatClampNeg) (xs ((nI i) + 3).toNatClampNeg) ((((xs ((nI i) + 4).toNatClampNeg).toInt64) <<< ((32 : Int32).toInt64 &&& 63)) ||| (((xs ((nI i) + 5).toNatClampNeg).toInt64) &&& 4294967295)) u e1) ⟨wd_866, wd_863, wd_864, wd_865, wd_54⟩ hd_X7_item ⟨by decide, by decide⟩ rfl (kyO (by decide)) rfl rfl hl.1 rfl (Nat.le_of_ble_eq_true rfl) dL_law_1101 ⟨by decide, by decide⟩ (fun H locs hPC hPR hS => ?_)
  refine lv_aload_n hx hb dL_law_1104 rfl (lv_at hl 2 rfl) ?_
  refine lv_aload_n hx hb dL_law_1105 rfl (lv_at hl 0 rfl) ?_
  refine lv_iload_n hx hb dL_law_1106 rfl (lv_at hl 3 rfl) ?_
  refine lv_iconst (v := 1) hx hb dL_law_1107 (by decide) ?_
  refine lv_iadd hx hb dL_law_1108 ?_
  refine va_sld (A := CA s.heap.size) hx hb hX hbl hbA hS (la_in (k := 1) hi (by decide) hL rfl) dL_law_1109 ?_
  refine lv_aload_n hx hb dL_law_1110 rfl (lv_at hl 0 rfl) ?_
  refine lv_iload_n hx hb dL_law_1111 rfl (lv_at hl 3 rfl) ?_
  refine lv_iconst (v := 2) hx hb dL_law_1112 (by decide) ?_
  refine lv_iadd hx hb dL_law_1113 ?_
  refine va_sld (A := CA s.heap.size) hx hb hX hbl hbA hS (la_in (k := 2) hi (by decide) hL rfl) dL_law_1114 ?_
  refine lv_aload_n hx hb dL_law_1115 rfl (lv_at hl 0 rfl) ?_
  refine lv_iload_n hx hb dL_law_1116 rfl (lv_at hl 3 rfl) ?_
  refine lv_iconst (v := 3) hx hb dL_law_1117 (by decide) ?_
  refine lv_iadd hx hb dL_law_1118 ?_
  refine va_sld (A := CA s.heap.size) hx hb hX hbl hbA hS (la_in (k := 3) hi (by decide) hL rfl) dL_law_1119 ?_
  refine lv_aload_n hx hb dL_law_1120 rfl (lv_at hl 0 rfl) ?_
  refine lv_iload_n hx hb dL_law_1121 rfl (lv_at hl 3 rfl) ?_
  refine lv_iconst (v := 4) hx hb dL_law_1122 (by decide) ?_
  refine lv_iadd hx hb dL_law_1123 ?_
  refine va_sld (A := CA s.heap.size) hx hb hX hbl hbA hS (la_in (k := 4) hi (by decide) hL rfl) dL_law_1124 ?_
  refine lv_i2l (v := ((xs ((nI i) + 4).toNatClampNeg).toInt64)) hx hb dL_law_1125 rfl ?_
  refine lv_bipush (v := 32) hx hb dL_law_1126 (by decide) ?_
  refine lv_lshl (v := (((xs ((nI i) + 4).toNatClampNeg).toInt64) <<< ((32 : Int32).toInt64 &&& 63))) hx hb dL_law_1128 rfl ?_
  refine lv_aload_n hx hb dL_law_1129 rfl (lv_at hl 0 rfl) ?_
  refine lv_iload_n hx hb dL_law_1130 rfl (lv_at hl 3 rfl) ?_
  refine lv_iconst (v := 5) hx hb dL_law_1131 (by decide) ?_
  refine lv_iadd hx hb dL_law_1132 ?_
  refine va_sld (A := CA s.heap.size) hx hb hX hbl hbA hS (la_in (k := 5) hi (by decide) hL rfl) dL_law_1133 ?_
  refine lv_i2l (v := ((xs ((nI i) + 5).toNatClampNeg).toInt64)) hx hb dL_law_1134 rfl ?_
  refine lv_ldc2 (v := 4294967295) hx hb hown (hts _ (gw_sub wd_1266)) dL_law_1135 ?_
  refine lv_land hx hb dL_law_1138 ?_
  refine lv_lor hx hb dL_law_1139 ?_
  refine la_call (sh := shR) (sh' := shC) (a := 9) (b := 0) (k := 0) (ci := 8) (T := TX8) (N := 31) (As := [.int (xs ((nI i) + 1).toNatClampNeg), .int (xs ((nI i) + 2).toNatClampNeg), .int (xs ((nI i) + 3).toNatClampNeg), .long ((((xs ((nI i) + 4).toNatClampNeg).toInt64) <<< ((32 : Int32).toInt64 &&& 63)) ||| (((xs ((nI i) + 5).toNatClampNeg).toInt64) &&& 4294967295))]) (rest := [.int r]) S hK hZR la_subR la_disR hPR hPC hS (c_X8_item l (D, cA, adL s.heap.size a0 a1) (XD_R D cA s.heap.size a0 a1) (xs ((nI i) + 1).toNatClampNeg) (xs ((nI i) + 2).toNatClampNeg) (xs ((nI i) + 3).toNatClampNeg) ((((xs ((nI i) + 4).toNatClampNeg).toInt64) <<< ((32 : Int32).toInt64 &&& 63)) ||| (((xs ((nI i) + 5).toNatClampNeg).toInt64) &&& 4294967295)) v e2) ⟨wd_1261, wd_1258, wd_1259, wd_1260, wd_62⟩ hd_X8_item ⟨by decide, by decide⟩ rfl (kyM (by decide)) rfl rfl hl.1 rfl (Nat.le_of_ble_eq_true rfl) dL_law_1140 ⟨by decide, by decide⟩ (fun H locs hPR hPC hS => ?_)
  refine lv_icmp_eq (tgt := 1211) hx hb dL_law_1143 (by decide) (fun _ => ?_) (fun h => absurd rfl h)
  exact hnext u1 v1 _ _ _ hrel1 hPC hPR hS hl
set_option maxRecDepth 100000 in
set_option maxHeartbeats 4000000 in
theorem law_copy (N : Nat) {Rel : Mm → Mm → Prop} (hop : Op_copy N Rel) {p : Program} {l : Launch} {e : Env} {s : State} {m : MethodId} {below : List Frame} {meth : Method} {c : Code} {D : va_G} {cA : Nat → ClassId} {a0 a1 b L : Nat} {xs : Nat → Int32} (hL : L ≤ 3584) (C0 : lw_At p s m meth c b L xs) (hK : XK (D, cA, adL s.heap.size a0 a1) s) (hZC : XZ shC (D, cA, adL s.heap.size a0 a1) s s.heap) (hZR : XZ shR (D, cA, adL s.heap.size a0 a1) s s.heap) {i : Nat} (hi : i + 7 ≤ L) (hnext : ∀ (u v : Mm) (H : Heap) (locs : List Loc) (ls : Array Slot), Rel u v → XP shC (D, cA, adL s.heap.size a0 a1) u H → XP shR (D, cA, adL s.heap.size a0 a1) v H → va_S (CA s.heap.size) s.heap H locs → lv_has ls 4 [(0, .ref b), (1, .ref (adL s.heap.size a0 a1 (3, 0, 0))), (2, .ref (adL s.heap.size a0 a1 (9, 0, 0))), (3, .int (nI i))] → W p l e room_1 s m #[Value.ref b] below meth c H locs 207 2270 (lw_Z below #[Value.ref b] s) (F0 m 1211 ls [])) {u v : Mm} (hrel : Rel u v) {H : Heap} {locs : List Loc} {ls : Array Slot} (hPC : XP shC (D, cA, adL s.heap.size a0 a1) u H) (hPR : XP shR (D, cA, adL s.heap.size a0 a1) v H) (hS : va_S (CA s.heap.size) s.heap H locs) (hl : lv_has ls 4 [(0, .ref b), (1, .ref (adL s.heap.size a0 a1 (3, 0, 0))), (2, .ref (adL s.heap.size a0 a1 (9, 0, 0))), (3, .int (nI i))]) : W p l e room_1 s m #[Value.ref b] below meth c H locs 207 2270 (lw_Z below #[Value.ref b] s) (F0 m 1148 ls []) := by
  obtain ⟨hx, hb, hr, hml, hown, hts, hX, hbl, hlocks, hgv⟩ := C0
  have S : CallFix p m c code 4 s #[Value.ref b] lw_tbl RL := ⟨hx, hb, hml, hown, hts⟩
  have hbA : ¬ CA s.heap.size b := Nat.not_le.mpr hbl
  refine lv_aload_n hx hb dL_law_1148 rfl (lv_at hl 1 rfl) ?_
  refine lv_aload_n hx hb dL_law_1149 rfl (lv_at hl 0 rfl) ?_
  refine lv_iload_n hx hb dL_law_1150 rfl (lv_at hl 3 rfl) ?_
  refine lv_iconst (v := 1) hx hb dL_law_1151 (by decide) ?_
  refine lv_iadd hx hb dL_law_1152 ?_
  refine va_sld (A := CA s.heap.size) hx hb hX hbl hbA hS (la_in (k := 1) hi (by decide) hL rfl) dL_law_1153 ?_
  refine lv_aload_n hx hb dL_law_1154 rfl (lv_at hl 0 rfl) ?_
  refine lv_iload_n hx hb dL_law_1155 rfl (lv_at hl 3 rfl) ?_
  refine lv_iconst (v := 2) hx hb dL_law_1156 (by decide) ?_
  refine lv_iadd hx hb dL_law_1157 ?_
  refine va_sld (A := CA s.heap.size) hx hb hX hbl hbA hS (la_in (k := 2) hi (by decide) hL rfl) dL_law_1158 ?_
  refine lv_aload_n hx hb dL_law_1159 rfl (lv_at hl 0 rfl) ?_
  refine lv_iload_n hx hb dL_law_1160 rfl (lv_at hl 3 rfl) ?_
  refine lv_iconst (v := 3) hx hb dL_law_1161 (by decide) ?_
  refine lv_iadd hx hb dL_law_1162 ?_
  refine va_sld (A := CA s.heap.size) hx hb hX hbl hbA hS (la_in (k := 3) hi (by decide) hL rfl) dL_law_1163 ?_
  refine lv_aload_n hx hb dL_law_1164 rfl (lv_at hl 0 rfl) ?_
  refine lv_iload_n hx hb dL_law_1165 rfl (lv_at hl 3 rfl) ?_
  refine lv_iconst (v := 4) hx hb dL_law_1166 (by decide) ?_
  refine lv_iadd hx hb dL_law_1167 ?_
  refine va_sld (A := CA s.heap.size) hx hb hX hbl hbA hS (la_in (k := 4) hi (by decide) hL rfl) dL_law_1168 ?_
  refine lv_aload_n hx hb dL_law_1169 rfl (lv_at hl 0 rfl) ?_
  refine lv_iload_n hx hb dL_law_1170 rfl (lv_at hl 3 rfl) ?_
  refine lv_iconst (v := 5) hx hb dL_law_1171 (by decide) ?_
  refine lv_iadd hx hb dL_law_1172 ?_
  refine va_sld (A := CA s.heap.size) hx hb hX hbl hbA hS (la_in (k := 5) hi (by decide) hL rfl) dL_law_1173 ?_
  obtain ⟨r, u1, v1, e1, e2, hrel1⟩ := hop u v hrel (xs ((nI i) + 1).toNatClampNeg) (xs ((nI i) + 2).toNatClampNeg) (xs ((nI i) + 3).toNatClampNeg) (xs ((nI i) + 4).toNatClampNeg) (xs ((nI i) + 5).toNatClampNeg)
  refine la_call (sh := shC) (sh' := shR) (a := 3) (b := 0) (k := 0) (ci := 7) (T := TX7) (N := 8) (As := [.int (xs ((nI i) + 1).toNatClampNeg), .int (xs ((nI i) + 2).toNatClampNeg), .int (xs ((nI i) + 3).toNatClampNeg), .int (xs ((nI i) + 4).toNatClampNeg), .int (xs ((nI i) + 5).toNatClampNeg)]) (rest := []) S hK hZC la_subC la_disC hPC hPR hS (c_X7_copy l (D, cA, adL s.heap.size a0 a1) (XD_C D cA s.heap.size a0 a1) (xs ((nI i) + 1).toNatClampNeg) (xs ((nI i) + 2).toNatClampNeg) (xs ((nI i) + 3).toNatClampNeg) (xs ((nI i) + 4).toNatClampNeg) (xs ((nI i) + 5).toNatClampNeg) u e1) ⟨wd_871, wd_868, wd_869, wd_870, wd_54⟩ hd_X7_copy ⟨by decide, by decide⟩ rfl (kyO (by decide)) rfl rfl hl.1 rfl (Nat.le_of_ble_eq_true rfl) dL_law_1174 ⟨by decide, by decide⟩ (fun H locs hPC hPR hS => ?_)
  refine lv_aload_n hx hb dL_law_1177 rfl (lv_at hl 2 rfl) ?_
  refine lv_aload_n hx hb dL_law_1178 rfl (lv_at hl 0 rfl) ?_
  refine lv_iload_n hx hb dL_law_1179 rfl (lv_at hl 3 rfl) ?_
  refine lv_iconst (v := 1) hx hb dL_law_1180 (by decide) ?_
  refine lv_iadd hx hb dL_law_1181 ?_
  refine va_sld (A := CA s.heap.size) hx hb hX hbl hbA hS (la_in (k := 1) hi (by decide) hL rfl) dL_law_1182 ?_
  refine lv_aload_n hx hb dL_law_1183 rfl (lv_at hl 0 rfl) ?_
  refine lv_iload_n hx hb dL_law_1184 rfl (lv_at hl 3 rfl) ?_
  refine lv_iconst (v := 2) hx hb dL_law_1185 (by decide) ?_
  refine lv_iadd hx hb dL_law_1186 ?_
  refine va_sld (A := CA s.heap.size) hx hb hX hbl hbA hS (la_in (k := 2) hi (by decide) hL rfl) dL_law_1187 ?_
  refine lv_aload_n hx hb dL_law_1188 rfl (lv_at hl 0 rfl) ?_
  refine lv_iload_n hx hb dL_law_1189 rfl (lv_at hl 3 rfl) ?_
  refine lv_iconst (v := 3) hx hb dL_law_1190 (by decide) ?_
  refine lv_iadd hx hb dL_law_1191 ?_
  refine va_sld (A := CA s.heap.size) hx hb hX hbl hbA hS (la_in (k := 3) hi (by decide) hL rfl) dL_law_1192 ?_
  refine lv_aload_n hx hb dL_law_1193 rfl (lv_at hl 0 rfl) ?_
  refine lv_iload_n hx hb dL_law_1194 rfl (lv_at hl 3 rfl) ?_
  refine lv_iconst (v := 4) hx hb dL_law_1195 (by decide) ?_
  refine lv_iadd hx hb dL_law_1196 ?_
  refine va_sld (A := CA s.heap.size) hx hb hX hbl hbA hS (la_in (k := 4) hi (by decide) hL rfl) dL_law_1197 ?_
  refine lv_aload_n hx hb dL_law_1198 rfl (lv_at hl 0 rfl) ?_
  refine lv_iload_n hx hb dL_law_1199 rfl (lv_at hl 3 rfl) ?_
  refine lv_iconst (v := 5) hx hb dL_law_1200 (by decide) ?_
  refine lv_iadd hx hb dL_law_1201 ?_
  refine va_sld (A := CA s.heap.size) hx hb hX hbl hbA hS (la_in (k := 5) hi (by decide) hL rfl) dL_law_1202 ?_
  refine la_call (sh := shR) (sh' := shC) (a := 9) (b := 0) (k := 0) (ci := 8) (T := TX8) (N := 31) (As := [.int (xs ((nI i) + 1).toNatClampNeg), .int (xs ((nI i) + 2).toNatClampNeg), .int (xs ((nI i) + 3).toNatClampNeg), .int (xs ((nI i) + 4).toNatClampNeg), .int (xs ((nI i) + 5).toNatClampNeg)]) (rest := [.int r]) S hK hZR la_subR la_disR hPR hPC hS (c_X8_copy l (D, cA, adL s.heap.size a0 a1) N (XD_R D cA s.heap.size a0 a1) (xs ((nI i) + 1).toNatClampNeg) (xs ((nI i) + 2).toNatClampNeg) (xs ((nI i) + 3).toNatClampNeg) (xs ((nI i) + 4).toNatClampNeg) (xs ((nI i) + 5).toNatClampNeg) v e2) ⟨wd_1265, wd_1262, wd_1263, wd_1264, wd_62⟩ hd_X8_copy ⟨by decide, by decide⟩ rfl (kyM (by decide)) rfl rfl hl.1 rfl (Nat.le_of_ble_eq_true rfl) dL_law_1203 ⟨by decide, by decide⟩ (fun H locs hPR hPC hS => ?_)
  refine lv_icmp_eq (tgt := 1211) hx hb dL_law_1206 (by decide) (fun _ => ?_) (fun h => absurd rfl h)
  exact hnext u1 v1 _ _ _ hrel1 hPC hPR hS hl
